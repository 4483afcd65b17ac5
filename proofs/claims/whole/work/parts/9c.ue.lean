/-! ===== the reference reads a whole text and looks at it ===== -/
theorem rCh_mem {M : zM} {t : Int} {xs : List JR} {kd : Nat} : ∀ {ps : List SP} {h : Int}, rCh M t xs kd ps h → ∀ {q : SP}, q ∈ ps → rK M t xs kd q := by
  intro ps
  induction ps with
  | nil => intro h _ q hq; exact nomatch hq
  | cons a r ih =>
    intro h hc q hq
    obtain ⟨-, -, h3, h4⟩ := hc
    rcases List.mem_cons.mp hq with e | e
    · rw [e]; exact h3
    · exact ih h4 e
section UEs
variable {l : Launch} {s0 : State} {a0 : Array Value} {G : va_G} {ca : Nat → ClassId} {d : Nat} {C : Nat × Nat} {S : zS} {M : zM} {Q : Int → zM → Prop} {X : zM → Prop} {xs : List JR} {v : Nat} {t : Int} {st : SS} {bt : Int → Int} {N : Nat}
/-- the late loop: each finished kid with a default is fitted -/
theorem r_lateL (Γ : rt_Γ l s0 a0 G ca) (hd : 80 ≤ d) (hok : zok C) (ht : zTx S t) {root : Nat} (hfin : sFin xs root st) (hH : hA xs) (hT : rTx M t xs) (hC : rC M t xs st) {w0 : rt_Wd} : ∀ (r pre : List (Nat × Nat × Option Nat)), st.lt = pre ++ r →
    (∀ e : Nat, sFil xs st.ns r = some e → rE t M X (12, e)) → (sFil xs st.ns r = none → Q 0 M) →
    zg_X10_readAll_59 l s0 G ca d C S w0 t (pre.length : Nat) M Q X := by
  obtain ⟨hK, hV, hD, hF, hTl, hRl, -, hrt⟩ := hfin
  have h29 : M t 29 = (st.lt.length : Int) := hC.1.2.2.2
  have hl9 : st.lt.length ≤ 128 := Nat.le_trans hC.2.2.2.2.2.2.2 hC.2.2.2.2.2.1
  have hkc : st.kc ≤ 2100 := hC.2.2.2.2.2.2.1
  have hlen := hC.len
  intro r
  induction r with
  | nil =>
    intro pre hlt kE kO
    refine zs_X10_readAll_59 Γ (by omega) hok ht ?_
    unfold zt_X10_readAll_59
    have e : st.lt.length = pre.length := by rw [hlt, List.append_nil]
    rw [h29, e, w32_id (by omega) (by omega)]
    exact ⟨fun _ => kO rfl, fun c => absurd (Int.le_refl _) c⟩
  | cons z r ih =>
    intro pre hlt kE kO
    have hlt2 : st.lt = (pre ++ [z]) ++ r := by rw [hlt, List.append_assoc]; rfl
    have hz : z ∈ st.lt := by rw [hlt]; exact List.mem_append_right _ List.mem_cons_self
    have hget : st.lt[pre.length]? = some z := by rw [hlt, List.getElem?_append_right (Nat.le_refl _), Nat.sub_self]; rfl
    have hpl := (List.getElem?_eq_some_iff.mp hget).1
    obtain ⟨q, q1, q2⟩ := hC.2.2.2.1 _ z hget
    obtain ⟨i, n, q', z1, z2, z3, z4, z5, z6⟩ := hTl z hz
    rw [z1, nN_at z2] at q1
    rw [z4] at q1
    have e9 : q' = q := Option.some.inj q1
    subst e9
    have hkn := hV.1.1 i n q' z2 (List.mem_of_getElem? z4)
    obtain ⟨nd, nd1, nd2, -⟩ := (hF i n z2).2.1 (by omega) q' (List.mem_of_getElem? z4)
    rw [kK_len] at nd2
    have hK9 : rK M t xs n.kd q' := rCh_mem (hC.2.2.1 i n z2).2.2.2.2.1 (List.mem_of_getElem? z4)
    have e17 : M (t + 17) (q'.kn : Int) = oR xs z.2.2 := by rw [← z5]; exact hK9.2.2 z3
    have e15 : M (t + 15) (q'.kn : Int) = (nd : Int) := hK9.1 nd nd1
    have hpt : sPtN st.ns z = nd := by
      rw [sPtN_at z1 z2 z4]
      unfold sPn
      dsimp only
      rw [nd1]
    have nxt : (∀ e : Nat, sFil xs st.ns r = some e → rE t M X (12, e)) → (sFil xs st.ns r = none → Q 0 M) → zg_X10_readAll_59 l s0 G ca d C S w0 t ((pre.length : Int) + 1) M Q X := fun k1 k2 => by
      have := ih (pre ++ [z]) hlt2 k1 k2
      rw [List.length_append, List.length_singleton] at this
      rw [show (pre.length : Int) + 1 = ((pre.length + 1 : Nat) : Int) by omega]
      exact this
    refine zs_X10_readAll_59 Γ (by omega) hok ht ?_
    unfold zt_X10_readAll_59
    rw [h29, w32_id (x := ((st.lt.length : Nat) : Int)) (by omega) (by omega), w32_id (x := ((pre.length : Nat) : Int)) (by omega) (by omega), q2, e17, e15]
    refine ⟨fun c => by omega, fun _ => ⟨⟨by omega, by omega⟩, ⟨by omega, by omega⟩, ?_⟩⟩
    cases hdf : z.2.2 with
    | none =>
      have e2 : sFil xs st.ns (z :: r) = sFil xs st.ns r := by
        show (match z.2.2 with | none => sFil xs st.ns r | some v => _) = _
        rw [hdf]
      rw [e2] at kE kO
      exact ⟨fun _ => nxt kE kO, fun c => absurd (show w32 (-1) < 0 by decide) c⟩
    | some v =>
      have hvl := z6 v hdf
      have e2 : sFil xs st.ns (z :: r) = (match sDv xs st.ns 25 v nd with | .error e => some e | .ok _ => sFil xs st.ns r) := by
        show (match z.2.2 with | none => sFil xs st.ns r | some v => (match sDv xs st.ns 25 v (sPtN st.ns z) with | .error e => some e | .ok _ => sFil xs st.ns r)) = _
        rw [hdf, ← hpt]
      rw [e2] at kE kO
      obtain ⟨-, -, v3, -⟩ := r_nd hT hvl
      rw [show oR xs (some v) = ((rP xs v : Nat) : Int) from rfl, w32_id (x := ((rP xs v : Nat) : Int)) (by omega) (by omega)]
      refine ⟨fun c => by omega, fun _ => ?_⟩
      refine r_fit (xs := xs) (st := st) Γ hok ht hK hF hV 24 (d - 1) v nd M _ X (by omega) hvl nd2 (hH v hvl) hT hC (fun e he => kE e (by rw [he])) (fun b he => ?_)
      rw [he] at kE kO
      exact nxt kE kO
end UEs
