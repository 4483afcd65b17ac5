/-! ===== the reference's shapes say what the text says so far ===== -/
/-- a kid -/
def rK (M : zM) (t : Int) (xs : List JR) (kd : Nat) (q : SP) : Prop :=
  (∀ m : Nat, q.nd = some m → M (t + 15) q.kn = m) ∧ ((kd = 10 ∨ kd = 11) → ∃ v : Nat, M (t + 16) q.kn = (rP xs v : Nat) ∧ v < xs.length ∧ (xx xs v).kd = 3 ∧ (xx xs v).ws = q.nm) ∧ (kd = 11 → M (t + 17) q.kn = oR xs q.df)
/-- a shape's kids, from that at h on -/
def rCh (M : zM) (t : Int) (xs : List JR) (kd : Nat) : List SP → Int → Prop
  | [], h => h = -1
  | q :: r, h => h = q.kn ∧ q.kn < 2200 ∧ rK M t xs kd q ∧ rCh M t xs kd r (M (t + 18) q.kn)
def rN (M : zM) (t : Int) (xs : List JR) (n : SN) (s : Nat) : Prop :=
  M (t + 9) s = n.kd ∧ (n.nm = none → M (t + 10) s = -1) ∧ (∀ (w : List Int32) (v : Nat), n.nm = some (w, v) → M (t + 10) s = (rP xs v : Nat) ∧ v < xs.length ∧ (xx xs v).kd = 3 ∧ (xx xs v).ws = w) ∧ M (t + 13) s = n.ps.length ∧ rCh M t xs n.kd n.ps (M (t + 12) s) ∧ (n.kd = 9 → 0 ≤ n.dt → M (t + 11) s = n.dt) ∧ (n.kd = 10 → M (t + 14) s = n.dt)
def rC (M : zM) (t : Int) (xs : List JR) (st : SS) : Prop :=
  (M t 17 = st.lk ∧ M t 16 = ((6 + st.ns.length : Nat) : Int) ∧ M t 24 = st.kc ∧ M t 29 = st.lt.length) ∧ (∀ i : Nat, i < 6 → M (t + 9) i = i ∧ M (t + 10) i = -1 ∧ M (t + 12) i = -1) ∧ (∀ (i : Nat) (n : SN), st.ns[i]? = some n → rN M t xs n (6 + i)) ∧
  (∀ (i : Nat) (z : Nat × Nat × Option Nat), st.lt[i]? = some z → ∃ q : SP, (nN st.ns z.1).ps[z.2.1]? = some q ∧ M (t + 19) i = q.kn) ∧ st.ns.length ≤ st.lk ∧ st.lk ≤ 128 ∧ st.kc ≤ 2100 ∧ st.lt.length ≤ st.lk
section RZs
variable {l : Launch} {s0 : State} {a0 : Array Value} {G : va_G} {ca : Nat → ClassId} {d : Nat} {C : Nat × Nat} {S : zS} {M : zM} {Q : Int → zM → Prop} {X : zM → Prop} {xs : List JR} {v : Nat} {t : Int} {st : SS}
theorem r_defL (Γ : rt_Γ l s0 a0 G ca) (hd : 2 ≤ d) (hok : zok C) (ht : zTx S t) (hT : rTx M t xs) (hv : v < xs.length) (hk : (xx xs v).kd = 3) (hC : rC M t xs st) {w0 : rt_Wd} : ∀ (r : List SN) (i : Nat), st.ns.drop i = r → i ≤ st.ns.length → Q (oI (sDefL (xx xs v).ws r (6 + i))) M → zg_X10_defined_3 l s0 G ca d C S w0 t (rP xs v : Nat) ((6 + i : Nat) : Int) M Q X := by
  obtain ⟨⟨-, b1, -⟩, -, hn, -, l1, l2, -, -⟩ := hC
  intro r
  induction r with
  | nil =>
    intro i hi hil hQ
    have hlen : st.ns.length ≤ i := by
      have := congrArg List.length hi
      rw [List.length_drop, List.length_nil] at this
      omega
    refine zs_X10_defined_3 Γ (by omega) hok ht ?_
    unfold zt_X10_defined_3
    rw [b1, w32_id (by omega) (by omega), w32_id (by omega) (by omega)]
    exact ⟨fun _ => hQ, fun c => by omega⟩
  | cons n r ih =>
    intro i hi hil hQ
    have hni : st.ns[i]? = some n := by
      have := congrArg (fun l => l[0]?) hi
      simpa using this
    have hlt := (List.getElem?_eq_some_iff.mp hni).1
    have hdr : st.ns.drop (i + 1) = r := by
      have := congrArg (List.drop 1) hi
      rw [List.drop_drop] at this
      exact this
    refine zs_X10_defined_3 Γ (by omega) hok ht ?_
    unfold zt_X10_defined_3
    rw [b1, w32_id (by omega) (by omega), w32_id (by omega) (by omega)]
    refine ⟨fun c => by omega, fun _ => ⟨⟨by omega, by omega⟩, ?_⟩⟩
    obtain ⟨-, k2, k3, -⟩ := hn i n hni
    have nxt : (¬ n.nm.map (fun q => q.1) = some (xx xs v).ws) → zg_X10_defined_3 l s0 G ca d C S w0 t (rP xs v : Nat) (((6 + i : Nat) : Int) + 1) M Q X := fun hne => by
      rw [show ((6 + i : Nat) : Int) + 1 = ((6 + (i + 1) : Nat) : Int) by omega]
      refine ih (i + 1) hdr (by omega) ?_
      unfold sDefL at hQ
      rw [if_neg hne] at hQ
      exact hQ
    obtain ⟨L, g1, g2, g3⟩ := r_str hT hv hk
    cases hnm : n.nm with
    | none =>
      rw [k2 hnm]
      exact ⟨fun _ => nxt (by rw [hnm]; exact fun h => nomatch h), fun c => absurd (by decide) c⟩
    | some q =>
      obtain ⟨y1, y2, y3, y4⟩ := k3 q.1 q.2 hnm
      obtain ⟨L2, h1, h2, h3⟩ := r_str hT y2 y3
      rw [y1, w32_id (by omega) (by omega)]
      refine ⟨fun c => by omega, fun _ => ?_⟩
      refine q_same Γ hok ht ht (by omega) (by omega) (by omega) (by omega) h1 g1 (by omega) (by omega) (fun e => ?_) (fun e => ?_)
      · refine ⟨fun c => absurd c (by decide), fun _ => ?_⟩
        unfold sDefL at hQ
        rw [if_pos (by rw [hnm, ← e, y4]; rfl)] at hQ
        exact hQ
      · exact ⟨fun _ => nxt (by rw [hnm]; exact fun h => e (by rw [y4]; exact Option.some.inj h)), fun c => absurd (by decide) c⟩
theorem r_def (Γ : rt_Γ l s0 a0 G ca) (hd : 2 ≤ d) (hok : zok C) (ht : zTx S t) (hT : rTx M t xs) (hv : v < xs.length) (hk : (xx xs v).kd = 3) (hC : rC M t xs st) (hQ : Q (oI (sDef st.ns (xx xs v).ws)) M) : zm_X10_defined l s0 G ca d C S t (rP xs v : Nat) M Q X := by
  refine z_X10_defined Γ (by omega) hok ht ?_
  unfold zt_X10_defined
  exact r_defL Γ hd hok ht hT hv hk hC st.ns 0 rfl (Nat.zero_le _) hQ
/-- which symbol a string is -/
theorem r_symL (Γ : rt_Γ l s0 a0 G ca) (hd : 2 ≤ d) (hok : zok C) (ht : zTx S t) (hT : rTx M t xs) (hv : v < xs.length) (hk : (xx xs v).kd = 3) {kd : Nat} (hkd : kd = 10 ∨ kd = 11) {w0 : rt_Wd} : ∀ (ps : List SP) (h : Int) (i : Nat), rCh M t xs kd ps h → Q (oI (sPrtL (xx xs v).ws ps i)) M → zg_X10_symbol_11 l s0 G ca d C S w0 t t (rP xs v : Nat) i h M Q X := by
  intro ps
  induction ps with
  | nil =>
    intro h i hc hQ
    have e : h = -1 := hc
    subst e
    refine zs_X10_symbol_11 Γ (by omega) hok ht ?_
    unfold zt_X10_symbol_11
    exact ⟨fun _ => hQ, fun c => absurd (by decide) c⟩
  | cons q r ih =>
    intro h i hc hQ
    obtain ⟨rfl, h2, ⟨-, h3, -⟩, h4⟩ := hc
    obtain ⟨u, y1, y2, y3, y4⟩ := h3 hkd
    obtain ⟨L, g1, g2, g3⟩ := r_str hT hv hk
    obtain ⟨L2, f1, f2, f3⟩ := r_str hT y2 y3
    refine zs_X10_symbol_11 Γ (by omega) hok ht ?_
    unfold zt_X10_symbol_11
    rw [w32_id (by omega) (by omega), y1]
    refine ⟨fun c => by omega, fun _ => ⟨⟨by omega, by omega⟩, ?_⟩⟩
    unfold sPrtL at hQ
    refine q_same Γ hok ht ht (by omega) (by omega) (by omega) (by omega) f1 g1 (by omega) (by omega) (fun e => ?_) (fun e => ?_)
    · rw [if_pos (by rw [← y4]; exact e)] at hQ
      exact ⟨fun c => absurd c (by decide), fun _ => hQ⟩
    · rw [if_neg (fun c => e (by rw [y4]; exact c))] at hQ
      refine ⟨fun _ => ?_, fun c => absurd (by decide) c⟩
      rw [show (i : Int) + 1 = ((i + 1 : Nat) : Int) by omega]
      exact ih _ (i + 1) h4 hQ
end RZs
