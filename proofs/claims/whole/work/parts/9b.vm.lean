/-! ===== the Filler: a value is put ===== -/
section VMs
variable {l : Launch} {s0 : State} {a0 : Array Value} {G : va_G} {ca : Nat → ClassId} {d : Nat} {C : Nat × Nat} {S : zS} {M : zM} {Q : Int → zM → Prop} {X : zM → Prop} {xs : List JR} {v s : Nat} {p : Int} {NU U W : Nat} {st : SS}
theorem c_mnmL (Γ : rt_Γ l s0 a0 G ca) (hd : 1 ≤ d) (hok : zok C) (hs : zSok S) (hs6 : S 6 = some (0, 8, [(3, 7), (3, 9), (3, 11), (3, 13), (3, 15), (3, 17), (3, 19), (3, 21), (3, 22), (3, 1), (0, 0), (0, 0), (0, 0)])) (hT : cTx M xs) {o ad : Int} {nd : Nat} (ho : zCe S o ad nd) (hnd : nd ≤ 8192) {lu : Nat} {w : Int} {ws : List Int32} (hw : wd (M ad) lu w ws) (hlu : lu ≤ nd) {w0 : rt_Wd} : ∀ (c i n t : Nat), kidsL c (xs.drop i) n true → t + c ≤ 2070 → Q (oI (xFind xs ws (xKid xs c i))) M →
    zg_X8_memberNamed_13 l s0 G ca d C S w0 o w (if c = 0 then -1 else (i : Int)) t M Q X := by
  have hl := hT.2.2
  intro c
  induction c with
  | zero =>
    intro i n t _ ht hQ
    refine zs_X8_memberNamed_13 Γ (by omega) hok hs hs6 ?_
    unfold zt_X8_memberNamed_13
    rw [w32_id (by omega) (by omega), if_pos rfl]
    exact ⟨fun c9 => by omega, fun _ => ⟨fun _ => hQ, fun c9 => absurd (by decide) c9⟩⟩
  | succ c ih =>
    intro i n t hk ht hQ
    obtain ⟨g1, g2, g3, g4, g5, g6⟩ := kidsL_step hk
    refine zs_X8_memberNamed_13 Γ (by omega) hok hs hs6 ?_
    unfold zt_X8_memberNamed_13
    rw [w32_id (by omega) (by omega), if_neg (Nat.succ_ne_zero c), w32_id (x := (i : Int)) (by omega) (by omega)]
    refine ⟨fun c9 => by omega, fun _ => ⟨fun c9 => by omega, fun _ => ?_⟩⟩
    have hr := cRec_at hT g1
    obtain ⟨vs, hvs⟩ := Option.isSome_iff_exists.mp g5
    rw [c_zat (by omega)]
    refine c_isw Γ hok (⟨by decide, by decide, by decide, hs 22 _ rfl, hs 23 _ rfl⟩ : zCe S 22 23 4096) (by decide) ho hnd (hr.2.2.2.2.2.2.2 vs hvs).wd (by omega) hw hlu ?_
    unfold xKid xFind at hQ
    rw [hvs] at hQ
    by_cases ce : vs = ws
    · rw [if_pos (by rw [ce])] at hQ
      rw [if_pos ce]
      exact ⟨fun c9 => absurd c9 (by decide), fun _ => hQ⟩
    · rw [if_neg (fun e => ce (Option.some.inj e))] at hQ
      rw [if_neg ce]
      refine ⟨fun _ => ?_, fun c9 => absurd (by decide) c9⟩
      have := ih _ _ (t + 1) g6 (by omega) hQ
      rw [c_zat (by omega), hr.2.2.2.2.1, g4, show (t : Int) + 1 = ((t + 1 : Nat) : Int) by omega]
      by_cases c0 : c = 0
      · subst c0
        rw [if_pos rfl] at this
        rw [if_neg (by decide)]
        exact this
      · rw [if_neg c0] at this
        rw [if_pos (decide_eq_true (by omega))]
        exact this
theorem c_mnm (Γ : rt_Γ l s0 a0 G ca) (hd : 1 ≤ d) (hok : zok C) (hs : zSok S) (hs6 : S 6 = some (0, 8, [(3, 7), (3, 9), (3, 11), (3, 13), (3, 15), (3, 17), (3, 19), (3, 21), (3, 22), (3, 1), (0, 0), (0, 0), (0, 0)])) (hT : cTx M xs) (hv : v < xs.length) (hk : (xx xs v).kd = 1) {o ad : Int} {nd : Nat} (ho : zCe S o ad nd) (hnd : nd ≤ 8192) {lu : Nat} {w : Int} {ws : List Int32} (hw : wd (M ad) lu w ws) (hlu : lu ≤ nd) (hQ : Q (oI (xMem xs v ws)) M) : zm_X8_memberNamed l s0 G ca d C S v o w M Q X := by
  refine z_X8_memberNamed Γ (by omega) hok hs hs6 ?_
  unfold zt_X8_memberNamed
  have hl := hT.2.2
  have hr := cRec_at hT hv
  obtain ⟨g1, g2, g3, g4, g5, g6, g7⟩ := jWf_at hT.2.1 hv
  have hkk := g6 (Or.inl hk)
  rw [decide_eq_true hk] at hkk
  rw [c_zat (by omega), hr.2.2.2.1]
  have hle := kidsL_le hkk
  exact c_mnmL Γ hd hok hs hs6 hT ho hnd hw hlu (xx xs v).len (v + 1) _ 0 hkk (by omega) hQ
/-- a record's fields -/
theorem f_fldL (Γ : rt_Γ l s0 a0 G ca) {m : Nat} (hd : 2 * m + 23 ≤ d) (hm : m ≤ 24) (hok : zok C) (hS : fSh S p) (hvl : v < xs.length) (hk1 : (xx xs v).kd = 1) (hF : kF st) (hI : ∀ (j : Nat) (w : List Int32), xMem xs v w = some j → ∃ m' : Nat, m = m' + 1 ∧ hv xs m' j ∧ cPt l s0 G ca C S xs p NU st m') {i : Nat} {n : SN} (hi : st.ns[i]? = some n) (hkd : n.kd = 11) {w0 : rt_Wd} : ∀ (r : List SP) (k U : Nat) (M : zM), n.ps.drop k = r → k ≤ n.ps.length → cTx M xs → gC M p NU st → M 25 2 = -1 → M (p + 23) 1 = (U : Int) → U + fW xs v r ≤ 8192 →
    fIt p M Q U (U + fW xs v r) (sFlw xs v (sDv xs st.ns m) r) →
    zg_X2_putFields_21 l s0 G ca d C S w0 p v ((6 + i : Nat) : Int) ((24 - m : Nat) : Int) k M Q X := by
  have hS0 := hS
  obtain ⟨⟨hs9, hp, hs24, hs6, hp0⟩, hs25⟩ := hS
  have hil := (List.getElem?_eq_some_iff.mp hi).1
  intro r
  induction r with
  | nil =>
    intro k U M hdr hkn hT hG h25 hU hR hit
    refine zs_X2_putFields_21 Γ (by omega) hok hs9 hp hs25 hs6 ?_
    unfold zt_X2_putFields_21
    have hg := hG.2.1 i n hi
    have hc := (hF i n hi).2.2.2.1 (by omega)
    have ht := nTot_in hi
    have hl48 := hG.2.2
    have hkl : n.ps.length ≤ k := by
      have := congrArg List.length hdr
      rw [List.length_drop, List.length_nil] at this
      omega
    have done : Q 0 M := hit.2 [] rfl M (Nat.le_add_right _ _) (apB.nil hU)
    rw [zat_in (a := p + 12) (by omega) (by omega) (by decide), hg.2.2.2.1, w32_id (x := ((n.ct : Nat) : Int)) (by omega) (by omega), w32_id (x := ((k : Nat) : Int)) (by omega) (by omega)]
    exact ⟨fun _ => done, fun c => by omega⟩
  | cons q r ih =>
    intro k U M hdr hkn hT hG h25 hU hR hit
    have hq : n.ps[k]? = some q := by
      have := congrArg (fun l => l[0]?) hdr
      simpa using this
    have hdr2 : n.ps.drop (k + 1) = r := by
      have := congrArg (List.drop 1) hdr
      rw [List.drop_drop] at this
      exact this
    obtain ⟨a1, a2, a3, a4, a5⟩ := g_prt hG hF hi (by omega) hq
    have hl48 := hG.2.2
    have hl := hT.2.2
    have c19 := hp.2.2.2.2.2.2.2.2.2.2.2.2.1
    refine zs_X2_putFields_21 Γ (by omega) hok hs9 hp hs25 hs6 ?_
    unfold zt_X2_putFields_21
    rw [zat_in (a := p + 12) (by omega) (by omega) (by decide), a1, w32_id (x := ((n.ps.length : Nat) : Int)) (by omega) (by omega), w32_id (x := ((k : Nat) : Int)) (by omega) (by omega), h25, zat_in (a := p + 10) (by omega) (by omega) (by decide), a2, show ((nTot (st.ns.take i) : Nat) : Int) + (k : Int) = ((nTot (st.ns.take i) + k : Nat) : Int) by omega, zat_in (a := p + 16) (by omega) (by omega) (by decide)]
    refine ⟨fun c => by omega, fun _ => ⟨fun _ => ?_, fun c => absurd (by decide) c⟩⟩
    have bad : ∀ (e : Nat) (M2 : zM) (W2 k9 : Nat), W2 ≤ U + fW xs v (q :: r) → fF p M M2 U W2 e → e ≤ 2000 → sFlw xs v (sDv xs st.ns m) (q :: r) = .error e → zg_X2_putFields_21 l s0 G ca d C S w0 p v ((6 + i : Nat) : Int) ((24 - m : Nat) : Int) ((k9 : Nat) : Int) M2 Q X := fun e M2 W2 k9 hW2 hfF he hfl => by
      refine zs_X2_putFields_21 Γ (by omega) hok hs9 hp hs25 hs6 ?_
      unfold zt_X2_putFields_21
      have stop : Q 0 M2 := hit.1 e hfl 0 M2 (hfF.up hW2)
      refine ⟨fun _ => stop, fun _ => ⟨fun c9 => ?_, fun _ => stop⟩⟩
      rw [hfF.1, w32_id (by omega) (by omega)] at c9
      omega
    refine c_mnm Γ (by omega) hok hs9 hs6 hT hvl hk1 c19 (by decide) (a4.2.1 (by omega)) (by omega) ?_
    cases hmm : xMem xs v q.nm with
    | none =>
      refine ⟨fun _ => ?_, fun c => absurd (by decide) c⟩
      refine f_misfit Γ (by omega) hok hS0 hT hvl h25 hU (W := U) (Nat.le_refl _) (fun M2 hF2 => ?_)
      rw [show (k : Int) + 1 = ((k + 1 : Nat) : Int) by omega]
      refine bad (xx xs v).bg M2 U (k + 1) (Nat.le_add_right _ _) hF2 (xx_bg hT.2.1 v) ?_
      show (match xMem xs v q.nm with | none => _ | some j => _) = _
      rw [hmm]
    | some j =>
      obtain ⟨-, -, hj⟩ := xMem_mem hT.2.1 hvl hmm
      obtain ⟨m', hmm', hvj, hIj⟩ := hI j q.nm hmm
      obtain ⟨nd, nd1, nd2, -⟩ := (hF i n hi).2.1 (by omega) q (List.mem_of_getElem? hq)
      rw [kK_len] at nd2
      have hsp : sPn (some q) = nd := by
        unfold sPn
        dsimp only
        rw [nd1]
      have hfw := fW_cons (r := r) hmm
      refine ⟨fun c => by rw [oI_w (by omega)] at c; omega, fun _ => ?_⟩
      rw [zat_in (a := p + 14) (by omega) (by omega) (by decide), a4.2.2 nd nd1, show ((24 - m : Nat) : Int) + 1 = ((24 - m' : Nat) : Int) by omega]
      show zm_X2_put l s0 G ca (d - 1) C S (j : Int) _ _ M _ X
      refine hIj (d - 1) j nd U M _ X (by omega) hj nd2 hvj hT hG h25 hU (by omega) ⟨fun e he x M3 hF3 => ?_, fun b he M3 hb3 ha3 => ?_⟩
      · rw [show (k : Int) + 1 = ((k + 1 : Nat) : Int) by omega]
        refine bad e M3 _ (k + 1) (by omega) hF3 (sDv_e hT.2.1 he) ?_
        show (match xMem xs v q.nm with | none => _ | some j => _) = _
        rw [hmm]
        dsimp only
        rw [hsp, hmm', he]
      · rw [show (k : Int) + 1 = ((k + 1 : Nat) : Int) by omega]
        refine ih (k + 1) (U + b.length) M3 hdr2 (by omega) (hT.ff ha3.f hp0) (hG.ff ha3.f hp0) (by rw [ha3.w hp0]; exact h25) ha3.1 (by omega) ⟨fun e he2 x M5 hF5 => ?_, fun bs he2 M5 hb5 ha5 => ?_⟩
        · refine hit.1 e ?_ x M5 ((fF.app ha3 hF5).up (by omega))
          show (match xMem xs v q.nm with | none => _ | some j => _) = _
          rw [hmm]
          dsimp only
          rw [hsp, hmm', he]
          dsimp only
          rw [← hmm', he2]
          rfl
        · have hbl : (b ++ bs).length = b.length + bs.length := List.length_append
          refine hit.2 (b ++ bs) ?_ M5 (by omega) (apB.app (by omega) ha3 ha5)
          show (match xMem xs v q.nm with | none => _ | some j => _) = _
          rw [hmm]
          dsimp only
          rw [hsp, hmm', he]
          dsimp only
          rw [← hmm', he2]
          rfl
end VMs
