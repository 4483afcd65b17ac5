/-! ===== the Drafter: the done fields' defaults are filled ===== -/
/-- what the Drafter and the Filler may write -/
def drf (p : Int) (M M1 : zM) : Prop := ∀ a : Int, (a < 24 ∨ (29 < a ∧ a < p) ∨ p + 24 < a) → M1 a = M a
theorem drf.rf {p : Int} {M : zM} : drf p M M := fun _ _ => rfl
theorem drf.tr {p : Int} {M M1 M2 : zM} (h1 : drf p M M1) (h2 : drf p M1 M2) : drf p M M2 := fun a h => (h2 a h).trans (h1 a h)
theorem drf.zu {p : Int} {M M1 : zM} (h1 : drf p M M1) {a k v : Int} (ha : ¬ (a < 24 ∨ (29 < a ∧ a < p) ∨ p + 24 < a)) : drf p M (zu M1 a k v) := fun b h => by
  rw [← h1 b h]
  exact funext fun j => zu_a (fun e => ha (e ▸ h))
theorem dfr.d {p : Int} {M M1 : zM} (h : dfr p M M1) : drf p M M1 := fun a ha => h a (by omega)
theorem dlr.d {p : Int} {U P : Nat} {M M1 : zM} (h : dlr p U P M M1) (hp : 30 ≤ p ∧ (p + 24 < 55 ∨ 138 ≤ p)) : drf p M M1 := fun a ha => funext fun j => h a j (by omega) (by omega) (by omega) (by omega)
theorem der.d {p : Int} {P : Nat} {M M1 : zM} (h : der p P M M1) (hp : 30 ≤ p ∧ (p + 24 < 55 ∨ 138 ≤ p)) : drf p M M1 := fun a ha => funext fun j => h a j (by omega) (by omega) (by omega) (by omega)
/-- the late fields noted -/
def lLt (M : zM) (st : SS) : Prop := M 26 1 = ((sLate st.ns st.lt).length : Int) ∧ ∀ (i : Nat) (z : Nat × Nat), (sLate st.ns st.lt)[i]? = some z → M 27 i = z.1 ∧ M 29 i = z.2
/-- those of pre are filled, and no others -/
def jD (M : zM) (p : Int) (xs : List JR) (st : SS) (U : Nat) (pre : List (Nat × Nat × Option Nat)) : Prop :=
  (∀ z ∈ pre, ∀ v : Nat, z.2.2 = some v → ∃ bs : List Nat, sDv xs st.ns 25 v (sPtN st.ns z) = .ok bs ∧ dfl M p U (pIx st.ns z) bs) ∧ ∀ P : Nat, P < nTot st.ns → (∀ z ∈ pre, ¬ z.2.2 = none → ¬ pIx st.ns z = P) → M (p + 18) (P : Int) = -1
theorem pIx_at {ns : List SN} {z : Nat × Nat × Option Nat} {i : Nat} (h : z.1 = 6 + i) : pIx ns z = nTot (ns.take i) + z.2.1 := by
  unfold pIx nBs
  rw [h, show 6 + i - 6 = i by omega]
theorem sPtN_at {ns : List SN} {z : Nat × Nat × Option Nat} {i : Nat} {n : SN} {q : SP} (h : z.1 = 6 + i) (hi : ns[i]? = some n) (hq : n.ps[z.2.1]? = some q) : sPtN ns z = sPn (some q) := by
  unfold sPtN
  rw [h, nN_at hi, hq]
section UCs
variable {l : Launch} {s0 : State} {a0 : Array Value} {G : va_G} {ca : Nat → ClassId} {d : Nat} {C : Nat × Nat} {S : zS} {M : zM} {Q : Int → zM → Prop} {X : zM → Prop} {xs : List JR} {v : Nat} {p : Int} {NU U W P nd : Nat} {st : SS}
theorem c_lateL (Γ : rt_Γ l s0 a0 G ca) (hd : 74 ≤ d) (hok : zok C) (hS : dSh S p) {root : Nat} (hfin : sFin xs root st) (hw : jWf xs) (hX : xL xs) (hH : hA xs) (h128 : st.lt.length ≤ 128) {w0 : rt_Wd} : ∀ (r pre : List (Nat × Nat × Option Nat)) (U : Nat) (M : zM), st.lt = pre ++ r → cTx M xs → gC M p NU st → (M p 12 = (root : Int) ∧ M (p + 13) 1 = (nTot st.ns : Int)) → lLt M st → M 24 3 = p → M 24 4 = 6 → M 24 6 = 0 → M 24 7 = -1 → M (p + 23) 1 = (U : Int) → U + lW xs r ≤ 8192 → jD M p xs st U pre →
    (∀ e : Nat, sFil xs st.ns r = some e → ∀ M1 : zM, M1 24 7 = (e : Int) → M1 24 3 = p → drf p M M1 → Q 12 M1) →
    (sFil xs st.ns r = none → ∀ (M1 : zM) (U1 : Nat), pS M1 p xs root st NU U1 → M1 24 7 = -1 → M1 24 3 = p → drf p M M1 → Q 0 M1) →
    zg_X1_draft_65 l s0 G ca d C S w0 ((sLate st.ns pre).length : Nat) M Q X := by
  have hS0 := hS
  obtain ⟨hs, hp, h24, h25, h6, hp0⟩ := hS
  obtain ⟨hK, hV, hD, hF, hTl, hRl, -, hrt⟩ := hfin
  intro r
  induction r with
  | nil =>
    intro pre U M hlt hT hG h11 hL h3 h4 hf hw7 hU hR hJ kE kO
    refine zs_X1_draft_65 Γ (by omega) hok hs h6 h24 h25 ?_
    unfold zt_X1_draft_65
    have hl9 : (sLate st.ns st.lt).length = (sLate st.ns pre).length := by rw [hlt, List.append_nil]
    have hlb : (sLate st.ns st.lt).length ≤ 128 := Nat.le_trans sLate_len h128
    rw [hL.1, hl9, w32_id (x := (((sLate st.ns pre).length : Nat) : Int)) (by omega) (by omega)]
    refine ⟨fun _ => ?_, fun c => absurd (Int.le_refl _) c⟩
    rw [hf]
    rw [List.append_nil] at hlt
    refine kO rfl M U ⟨hG, h11, hU, by show U ≤ 8192; omega, fun i k n q hi hk hq => ⟨fun hdf => ?_, fun v hv => ?_⟩⟩ hw7 h3 drf.rf
    · have hkl := (List.getElem?_eq_some_iff.mp hq).1
      have hc := (hF i n hi).2.2.2.1 (by omega)
      have htn := nTot_in hi
      refine hJ.2 _ (by omega) (fun z hz hne e => hne ?_)
      rw [← hlt] at hz
      obtain ⟨i2, n2, q2, z1, z2, z3, z4, z5, -⟩ := hTl z hz
      have hkl2 := (List.getElem?_eq_some_iff.mp z4).1
      have hc2 := (hF i2 n2 z2).2.2.2.1 (by omega)
      rw [pIx_at z1] at e
      obtain ⟨e1, e2⟩ := part_inj z2 hi (by omega) (by omega) e
      subst e1
      rw [hi] at z2
      cases z2
      rw [e2, hq] at z4
      cases z4
      rw [← z5]
      exact hdf
    · have hkl := (List.getElem?_eq_some_iff.mp hq).1
      obtain ⟨z, hz, z1, z2⟩ := hRl i k n hi hk hkl (fun h => h)
      obtain ⟨i2, n2, q2, y1, y2, y3, y4, y5, -⟩ := hTl z hz
      have : i2 = i := by omega
      subst this
      rw [hi] at y2
      cases y2
      rw [z2, hq] at y4
      cases y4
      rw [hlt] at hz
      obtain ⟨bs, b1, b2⟩ := hJ.1 z hz v (by rw [← y5]; exact hv)
      rw [sPtN_at z1 hi (by rw [z2]; exact hq)] at b1
      rw [pIx_at z1, z2] at b2
      exact ⟨bs, b1, b2⟩
  | cons z r ih =>
    intro pre U M hlt hT hG h11 hL h3 h4 hf hw7 hU hR hJ kE kO
    have hlt2 : st.lt = (pre ++ [z]) ++ r := by rw [hlt, List.append_assoc]; rfl
    have hz : z ∈ st.lt := by rw [hlt]; exact List.mem_append_right _ List.mem_cons_self
    cases hdf : z.2.2 with
    | none =>
      have e1 : sLate st.ns (pre ++ [z]) = sLate st.ns pre := by
        rw [sLate_app]
        have : sLate st.ns [z] = [] := by
          unfold sLate
          rw [hdf]
          rfl
        rw [this, List.append_nil]
      have e2 : sFil xs st.ns (z :: r) = sFil xs st.ns r := by
        show (match z.2.2 with | none => sFil xs st.ns r | some v => _) = _
        rw [hdf]
      have e3 : lW xs (z :: r) = lW xs r := by
        show (match z.2.2 with | none => 0 | some v => dV xs v) + lW xs r = _
        rw [hdf]
        exact Nat.zero_add _
      rw [e2] at kE kO
      rw [e3] at hR
      rw [← e1]
      refine ih (pre ++ [z]) U M hlt2 hT hG h11 hL h3 h4 hf hw7 hU hR ⟨fun z' hz' v hv => ?_, fun P hP hne => hJ.2 P hP (fun z' hz' => hne z' (List.mem_append_left _ hz'))⟩ kE kO
      rcases List.mem_append.mp hz' with c | c
      · exact hJ.1 z' c v hv
      · rw [List.mem_singleton] at c
        rw [c, hdf] at hv
        exact nomatch hv
    | some v =>
      obtain ⟨i, n, q, z1, z2, z3, z4, z5, z6⟩ := hTl z hz
      have hvl := z6 v hdf
      have hkl := (List.getElem?_eq_some_iff.mp z4).1
      have hc := (hF i n z2).2.2.2.1 (by omega)
      have htn := nTot_in z2
      obtain ⟨g1, g2, g3, g4, g5⟩ := g_prt hG hF z2 (by omega) z4
      obtain ⟨nd, nd1, nd2, -⟩ := (hF i n z2).2.1 (by omega) q (List.mem_of_getElem? z4)
      rw [kK_len] at nd2
      have hpt : sPtN st.ns z = nd := by
        rw [sPtN_at z1 z2 z4]
        unfold sPn
        dsimp only
        rw [nd1]
      have hpx := pIx_at (ns := st.ns) z1
      have e1 : sLate st.ns st.lt = sLate st.ns pre ++ ((pIx st.ns z, v) :: sLate st.ns r) := by
        rw [hlt, sLate_app]
        congr 1
        show (match z.2.2 with | none => sLate st.ns r | some v => (nBs st.ns z.1 + z.2.1, v) :: sLate st.ns r) = _
        rw [hdf]
        rfl
      have e1b : sLate st.ns (pre ++ [z]) = sLate st.ns pre ++ [(pIx st.ns z, v)] := by
        rw [sLate_app]
        congr 1
        show (match z.2.2 with | none => sLate st.ns [] | some v => (nBs st.ns z.1 + z.2.1, v) :: sLate st.ns []) = _
        rw [hdf]
        rfl
      have e2 : sFil xs st.ns (z :: r) = (match sDv xs st.ns 25 v nd with | .error e => some e | .ok _ => sFil xs st.ns r) := by
        show (match z.2.2 with | none => sFil xs st.ns r | some v => (match sDv xs st.ns 25 v (sPtN st.ns z) with | .error e => some e | .ok _ => sFil xs st.ns r)) = _
        rw [hdf, ← hpt]
      have e3 : lW xs (z :: r) = dV xs v + lW xs r := by
        show (match z.2.2 with | none => 0 | some v => dV xs v) + lW xs r = _
        rw [hdf]
      rw [e2] at kE kO
      rw [e3] at hR
      have hlb : (sLate st.ns st.lt).length ≤ 128 := Nat.le_trans sLate_len h128
      have hle : (sLate st.ns st.lt).length = (sLate st.ns pre).length + (1 + (sLate st.ns r).length) := by
        rw [e1, List.length_append, List.length_cons]
        omega
      have hlg : M 27 (((sLate st.ns pre).length : Nat) : Int) = ((pIx st.ns z : Nat) : Int) ∧ M 29 (((sLate st.ns pre).length : Nat) : Int) = ((v : Nat) : Int) := hL.2 (sLate st.ns pre).length (pIx st.ns z, v) (by rw [e1, List.getElem?_append_right (Nat.le_refl _), Nat.sub_self]; rfl)
      refine zs_X1_draft_65 Γ (by omega) hok hs h6 h24 h25 ?_
      unfold zt_X1_draft_65
      rw [hL.1, w32_id (x := (((sLate st.ns st.lt).length : Nat) : Int)) (by omega) (by omega), w32_id (x := (((sLate st.ns pre).length : Nat) : Int)) (by omega) (by omega), hf, h3, h4]
      refine ⟨fun c => by omega, fun _ => ⟨fun _ => ?_, fun c => absurd (by decide) c⟩⟩
      rw [zat_in (by omega) (by omega) (by decide), zat_in (by omega) (by omega) (by decide), hlg.1, hlg.2]
      have hP : pIx st.ns z < 2048 := by rw [hpx]; omega
      have hpn : M (p + 14) ((pIx st.ns z : Nat) : Int) = (nd : Int) := by
        rw [hpx]
        exact g4.2.2 nd nd1
      refine c_fill Γ (by omega) hok hS0 hK hF hD hX hH hT hG hvl h3 h4 hP hpn nd2 hU (by omega) (fun e he M1 f1 f2 f3 => ?_) (fun bs hb M1 f1 f2 f3 f4 => ?_)
      · have hle2 := sDv_e hw he
        refine ⟨fun c => absurd c (by rw [w32_id (by omega) (by omega)]; omega), fun _ => ?_⟩
        have fin := kE e (by rw [he]) (zu (zu M1 24 7 (e : Int)) 24 6 12) (by rw [zu_k (by decide), zu_s]) (by rw [zu_k (by decide), zu_k (by decide), f1 24 3 (by decide) (by omega) (by omega) (by omega)]; exact h3) (((f1.d hp0).zu (by omega)).zu (by omega))
        refine zs_X1_draft_65 Γ (by omega) hok hs h6 h24 h25 ?_
        unfold zt_X1_draft_65
        rw [zu_s]
        exact ⟨fun _ => fin, fun _ => ⟨fun c => absurd c (by decide), fun _ => fin⟩⟩
      · refine ⟨fun _ => ?_, fun c => absurd (by decide) c⟩
        rw [hb] at kE kO
        dsimp only at kE kO
        generalize hM2 : zu (zu M1 24 7 (-1)) 24 6 0 = M2
        have fr2 : ∀ a j : Int, ¬ a = 24 → M2 a j = M1 a j := fun a j h => by rw [← hM2, zu_a h, zu_a h]
        have fr2a : ∀ a : Int, ¬ a = 24 → M2 a = M1 a := fun a h => funext fun j => fr2 a j h
        have b6 : M2 24 6 = 0 := by rw [← hM2, zu_s]
        have b7 : M2 24 7 = -1 := by rw [← hM2, zu_k (by decide), zu_s]
        have b3 : M2 24 3 = p := by rw [← hM2, zu_k (by decide), zu_k (by decide), f1 24 3 (by decide) (by omega) (by omega) (by omega)]; exact h3
        have b4 : M2 24 4 = 6 := by rw [← hM2, zu_k (by decide), zu_k (by decide), f1 24 4 (by decide) (by omega) (by omega) (by omega)]; exact h4
        have hdr : drf p M M2 := by
          rw [← hM2]
          exact ((f1.d hp0).zu (by omega)).zu (by omega)
        clear hM2
        have fM : ∀ a j : Int, ¬ a = 24 → ¬ a = 25 → ¬ (a = p + 23 ∧ j = 1) → ¬ (a = p + 24 ∧ (U : Int) ≤ j) → ¬ ((a = p + 18 ∨ a = p + 20) ∧ j = ((pIx st.ns z : Nat) : Int)) → M2 a j = M a j := fun a j n0 n1 n2 n3 n4 => (fr2 a j n0).trans (f1 a j n1 n2 n3 n4)
        have hT2 : cTx M2 xs := hT.fr (fun a h1 h2 => funext fun j => fM a j (by omega) (by omega) (by omega) (by omega) (by omega))
        have hG2 : gC M2 p NU st := hG.fr (fun a h => funext fun j => fM a j (by omega) (by omega) (by omega) (by omega) (by omega))
        have hL2 : lLt M2 st := ⟨by rw [fM 26 1 (by decide) (by decide) (by omega) (by omega) (by omega)]; exact hL.1, fun i9 z9 hz9 => by
          rw [fM 27 i9 (by decide) (by decide) (by omega) (by omega) (by omega), fM 29 i9 (by decide) (by decide) (by omega) (by omega) (by omega)]
          exact hL.2 i9 z9 hz9⟩
        have hnew : dfl M2 p (U + bs.length) (pIx st.ns z) bs := f4.up (Nat.le_refl _) (fr2 _ _ (by omega)) (fr2 _ _ (by omega)) (fun j _ => fr2 _ _ (by omega))
        have hlen : (sLate st.ns (pre ++ [z])).length = (sLate st.ns pre).length + 1 := by rw [e1b, List.length_append]; rfl
        rw [show (((sLate st.ns pre).length : Nat) : Int) + 1 = (((sLate st.ns (pre ++ [z])).length : Nat) : Int) by rw [hlen]; omega]
        refine ih (pre ++ [z]) (U + bs.length) M2 hlt2 hT2 hG2 ⟨by rw [fM p 12 (by omega) (by omega) (by omega) (by omega) (by omega)]; exact h11.1, by rw [fM (p + 13) 1 (by omega) (by omega) (by omega) (by omega) (by omega)]; exact h11.2⟩ hL2 b3 b4 b6 b7 (by rw [fr2 _ _ (by omega)]; exact f2) (by omega) ⟨fun z' hz' v' hv' => ?_, fun P9 hP9 hne => ?_⟩ (fun e he M3 g1 g2 g3 => kE e he M3 g1 g2 (hdr.tr g3)) (fun hn M3 U3 g1 g2 g3 g4 => kO hn M3 U3 g1 g2 g3 (hdr.tr g4))
        · -- an entry ahead, or this one
          have hin : z' ∈ st.lt := by
            rw [hlt2]
            exact List.mem_append_left _ hz'
          obtain ⟨i', n', q', y1, y2, y3, y4, y5, y6⟩ := hTl z' hin
          have hkl' := (List.getElem?_eq_some_iff.mp y4).1
          have hc' := (hF i' n' y2).2.2.2.1 (by omega)
          have hpx' := pIx_at (ns := st.ns) y1
          by_cases ce : pIx st.ns z' = pIx st.ns z
          · rw [hpx', hpx] at ce
            obtain ⟨e8, e9⟩ := part_inj y2 z2 (by omega) (by omega) ce
            subst e8
            rw [z2] at y2
            cases y2
            rw [e9, z4] at y4
            cases y4
            have hv9 : v' = v := by
              rw [y5] at z5
              rw [z5, hdf] at hv'
              exact (Option.some.inj hv').symm
            subst hv9
            have hpt' : sPtN st.ns z' = nd := by
              rw [sPtN_at y1 z2 (by rw [e9]; exact z4)]
              unfold sPn
              dsimp only
              rw [nd1]
            refine ⟨bs, by rw [hpt']; exact hb, ?_⟩
            have : pIx st.ns z' = pIx st.ns z := by rw [hpx', hpx, e9]
            rw [this]
            exact hnew
          · rcases List.mem_append.mp hz' with c | c
            · obtain ⟨bs', d1, d2⟩ := hJ.1 z' c v' hv'
              refine ⟨bs', d1, d2.up (Nat.le_add_right _ _) (fM _ _ (by omega) (by omega) (by omega) (by omega) (by omega)) (fM _ _ (by omega) (by omega) (by omega) (by omega) (by omega)) (fun j hj => fM _ _ (by omega) (by omega) (by omega) (by omega) (by omega))⟩
            · rw [List.mem_singleton] at c
              rw [c] at ce
              exact absurd rfl ce
        · have hneP : ¬ pIx st.ns z = P9 := hne z (List.mem_append_right _ (List.mem_singleton.mpr rfl)) (by rw [hdf]; exact fun h => nomatch h)
          rw [fM _ _ (by omega) (by omega) (by omega) (by omega) (by omega)]
          exact hJ.2 P9 hP9 (fun z' hz' => hne z' (List.mem_append_left _ hz'))
end UCs
