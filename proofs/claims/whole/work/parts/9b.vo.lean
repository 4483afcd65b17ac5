/-! ===== the reference's fit: a default fits its schema ===== -/
section VOs
variable {l : Launch} {s0 : State} {a0 : Array Value} {G : va_G} {ca : Nat → ClassId} {d : Nat} {C : Nat × Nat} {S : zS} {M : zM} {Q : Int → zM → Prop} {X : zM → Prop} {xs : List JR} {v s : Nat} {t : Int} {st : SS}
/-- the first kid's shape -/
theorem r_kid0 (hC : rC M t xs st) (hF : kF st) {s : Nat} (hs : s < 6 + st.ns.length) (hk : (nN st.ns s).kd = 6 ∨ (nN st.ns s).kd = 7 ∨ (nN st.ns s).kd = 8) : ∃ k : Nat, M (t + 12) (s : Int) = (k : Int) ∧ k < 2200 ∧ M (t + 15) (k : Int) = (sKid0 st.ns s : Int) ∧ sKid0 st.ns s < 6 + st.ns.length ∧ ((nN st.ns s).kd = 8 → nuN (kK st) (sKid0 st.ns s)) := by
  obtain ⟨i, rfl, hi⟩ := nN_some (ns := st.ns) (s := s) (nN_ge (ns := st.ns) (by omega)) hs
  generalize nN st.ns (6 + i) = n at hk hi
  have h1 : 1 ≤ n.ps.length := by
    by_cases h8 : n.kd = 8
    · exact (hF i n hi).2.2.1 h8
    · obtain ⟨q, hq⟩ := (hF i n hi).1 (by omega)
      rw [hq]
      exact Nat.le_refl 1
  obtain ⟨q, hq⟩ : ∃ q : SP, n.ps[0]? = some q := ⟨_, List.getElem?_eq_getElem (by omega)⟩
  obtain ⟨m, m1, m2, m3⟩ := (hF i n hi).2.1 (by omega) q (List.mem_of_getElem? hq)
  have e : sKid0 st.ns (6 + i) = m := by
    unfold sKid0
    rw [nN_at hi, hq]
    unfold sPn
    dsimp only
    rw [m1]
  have hch := (hC.2.2.1 i n hi).2.2.2.2.1
  rw [e]
  rw [kK_len] at m2
  cases hps : n.ps with
  | nil => rw [hps] at hq; exact nomatch hq
  | cons q2 r =>
    rw [hps] at hq hch
    have e2 : q2 = q := Option.some.inj hq
    subst e2
    obtain ⟨c1, c2, c3, c4⟩ := hch
    exact ⟨q2.kn, c1, c2, c3.1 m m1, m2, m3⟩
theorem r_mlL (Γ : rt_Γ l s0 a0 G ca) (hd : 2 ≤ d) (hok : zok C) (ht : zTx S t) (hT : rTx M t xs) {nn : Int} (hnn0 : 0 ≤ nn) (hnn : nn < 4200) {L0 : Nat} {ws : List Int32} (hnm : rStr M t nn L0 ws) (hL0 : L0 + ws.length ≤ 4200) {w0 : rt_Wd} : ∀ (c i n : Nat), kidsL c (xs.drop i) n true → Q (oR xs (xFind xs ws (xKid xs c i))) M → zg_X10_memberLike_7 l s0 G ca d C S w0 t nn (if c = 0 then -1 else ((rWp xs i : Nat) : Int)) M Q X := by
  intro c
  induction c with
  | zero =>
    intro i n _ hQ
    refine zs_X10_memberLike_7 Γ (by omega) hok ht ?_
    unfold zt_X10_memberLike_7
    rw [if_pos rfl]
    exact ⟨fun _ => hQ, fun c9 => absurd (by decide) c9⟩
  | succ c ih =>
    intro i n hk hQ
    obtain ⟨g1, g2, g3, g4, g5, g6⟩ := kidsL_step hk
    refine zs_X10_memberLike_7 Γ (by omega) hok ht ?_
    unfold zt_X10_memberLike_7
    obtain ⟨h1, h2, h3, h4, -⟩ := rTx_at hT g1
    obtain ⟨vs, hvs⟩ := Option.isSome_iff_exists.mp g5
    obtain ⟨k1, k2, k3⟩ := h1 vs hvs
    rw [if_neg (Nat.succ_ne_zero c), w32_id (by omega) (by omega)]
    refine ⟨fun c9 => by omega, fun _ => ?_⟩
    have hjk : jk (xx xs i) = 1 := by unfold jk; rw [hvs]; rfl
    have hrp : rP xs i = rWp xs i + 1 := by unfold rP; rw [hjk]
    have hkey : M (t + 7) (rWp xs i : Nat) = (rP xs i : Nat) := by rw [k2, hrp]; omega
    unfold xKid xFind at hQ
    rw [hvs] at hQ
    refine q_same Γ hok ht ht (by omega) (by omega) hnn0 hnn k1 hnm (by omega) hL0 (fun e => ?_) (fun e => ?_)
    · rw [if_pos (by rw [e])] at hQ
      refine ⟨fun c9 => absurd c9 (by decide), fun _ => ⟨⟨by omega, by omega⟩, ?_⟩⟩
      rw [hkey]
      exact hQ
    · rw [if_neg (fun e2 => e (Option.some.inj e2))] at hQ
      refine ⟨fun _ => ⟨⟨by omega, by omega⟩, ?_⟩, fun c9 => absurd (by decide) c9⟩
      rw [hkey]
      refine ⟨⟨by omega, by omega⟩, ?_⟩
      have hnx := h2.2.2.2.2.2.2
      rw [hnx, g4]
      have := ih _ _ g6 hQ
      by_cases c0 : c = 0
      · subst c0
        rw [if_pos rfl] at this
        rw [if_neg (by decide)]
        exact this
      · rw [if_neg c0] at this
        rw [if_pos (decide_eq_true (by omega))]
        exact this
theorem r_ml (Γ : rt_Γ l s0 a0 G ca) (hd : 3 ≤ d) (hok : zok C) (ht : zTx S t) (hT : rTx M t xs) (hvl : v < xs.length) (hk : (xx xs v).kd = 1) {u : Nat} (hu : u < xs.length) (hk3 : (xx xs u).kd = 3) (hQ : Q (oR xs (xMem xs v (xx xs u).ws)) M) : zm_X10_memberLike l s0 G ca d C S t (rP xs v : Nat) (rP xs u : Nat) M Q X := by
  refine z_X10_memberLike Γ (by omega) hok ht ?_
  unfold zt_X10_memberLike
  obtain ⟨v1, v2, v3, -, -, v6, -⟩ := r_nd hT hvl
  obtain ⟨g1, g2, g3, g4, g5, g6, g7⟩ := jWf_at hT.2.1 hvl
  have hkk := g6 (Or.inl hk)
  rw [decide_eq_true hk] at hkk
  refine ⟨⟨by omega, by omega⟩, ?_⟩
  rw [v6 (Or.inl hk)]
  obtain ⟨L, f1, f2, f3⟩ := r_str hT hu hk3
  exact r_mlL Γ (by omega) hok ht hT (by omega) (by omega) f1 (by omega) (xx xs v).len (v + 1) _ hkk hQ
/-- fit keeps its promise, m brackets from the deepest -/
def rFt (l : Launch) (s0 : State) (G : va_G) (ca : Nat → ClassId) (C : Nat × Nat) (S : zS) (xs : List JR) (t : Int) (st : SS) (m : Nat) : Prop :=
  ∀ (d v s : Nat) (M : zM) (Q : Int → zM → Prop) (X : zM → Prop), 2 * m + 22 ≤ d → v < xs.length → s < 6 + st.ns.length → hv xs m v → rTx M t xs → rC M t xs st →
    (∀ e : Nat, sDv xs st.ns (m + 1) v s = .error e → rE t M X (12, e)) → (∀ b : List Nat, sDv xs st.ns (m + 1) v s = .ok b → Q 0 M) → zm_X10_fit l s0 G ca d C S t (rP xs v : Nat) s M Q X
theorem r_elL (Γ : rt_Γ l s0 a0 G ca) {m' : Nat} (hd : 2 * m' + 23 ≤ d) (hok : zok C) (ht : zTx S t) (hI : rFt l s0 G ca C S xs t st m') (hT : rTx M t xs) (hC : rC M t xs st) (hF : kF st) (hs : s < 6 + st.ns.length) (hk6 : (nN st.ns s).kd = 6) {w0 : rt_Wd} : ∀ (c i n : Nat), kidsL c (xs.drop i) n false → (∀ j ∈ xKid xs c i, hv xs m' j) →
    (∀ e : Nat, sCat (fun j => sDv xs st.ns (m' + 1) j (sKid0 st.ns s)) (xKid xs c i) = .error e → rE t M X (12, e)) → (∀ b : List Nat, sCat (fun j => sDv xs st.ns (m' + 1) j (sKid0 st.ns s)) (xKid xs c i) = .ok b → Q 0 M) →
    zg_X10_fit_350 l s0 G ca d C S w0 t s (if c = 0 then -1 else ((rWp xs i : Nat) : Int)) M Q X := by
  obtain ⟨k, k1, k2, k3, k4, -⟩ := r_kid0 hC hF hs (Or.inl hk6)
  have hlen := hC.len
  intro c
  induction c with
  | zero =>
    intro i n _ _ kE kO
    refine zs_X10_fit_350 Γ (by omega) hok ht ?_
    unfold zt_X10_fit_350
    rw [if_pos rfl]
    exact ⟨fun _ => kO [] rfl, fun c9 => absurd (by decide) c9⟩
  | succ c ih =>
    intro i n hk hh kE kO
    obtain ⟨g1, g2, g3, g4, g5, g6⟩ := kidsL_step hk
    have hrp := r_el g5
    obtain ⟨n1, n2, n3, -, -, -, n7, -⟩ := r_nd hT g1
    refine zs_X10_fit_350 Γ (by omega) hok ht ?_
    unfold zt_X10_fit_350
    rw [if_neg (Nat.succ_ne_zero c), ← hrp, w32_id (by omega) (by omega), k1, k3]
    unfold xKid sCat at kE kO
    refine ⟨fun c9 => by omega, fun _ => ⟨⟨by omega, by omega⟩, ⟨by omega, by omega⟩, ?_⟩⟩
    refine hI (d - 1) i (sKid0 st.ns s) M _ X (by omega) g1 k4 (hh i List.mem_cons_self) hT hC (fun e he => kE e (by rw [he])) (fun b he => ⟨⟨by omega, by omega⟩, ?_⟩)
    rw [he] at kE kO
    dsimp only at kE kO
    have hnx : M (t + 7) ((rP xs i : Nat) : Int) = (if c = 0 then -1 else ((rWp xs (i + (xx xs i).sz) : Nat) : Int)) := by
      rw [n7, g4]
      by_cases c0 : c = 0
      · rw [if_pos c0, if_neg (by rw [decide_eq_false (by omega)]; exact fun h => nomatch h)]
      · rw [if_neg c0, if_pos (decide_eq_true (by omega))]
    rw [hnx]
    exact ih _ _ g6 (fun j hj => hh j (List.mem_cons_of_mem _ hj)) (fun e he2 => kE e (by rw [he2]; rfl)) (fun b2 he2 => kO (b ++ b2) (by rw [he2]; rfl))
theorem r_mpL (Γ : rt_Γ l s0 a0 G ca) {m' : Nat} (hd : 2 * m' + 23 ≤ d) (hok : zok C) (ht : zTx S t) (hI : rFt l s0 G ca C S xs t st m') (hT : rTx M t xs) (hC : rC M t xs st) (hF : kF st) (hs : s < 6 + st.ns.length) (hk7 : (nN st.ns s).kd = 7) {w0 : rt_Wd} : ∀ (c i n : Nat), kidsL c (xs.drop i) n true → (∀ j ∈ xKid xs c i, hv xs m' j) →
    (∀ e : Nat, sCat (fun j => sMap (fun b => sKyb xs j ++ b) (sDv xs st.ns (m' + 1) j (sKid0 st.ns s))) (xKid xs c i) = .error e → rE t M X (12, e)) → (∀ b : List Nat, sCat (fun j => sMap (fun b => sKyb xs j ++ b) (sDv xs st.ns (m' + 1) j (sKid0 st.ns s))) (xKid xs c i) = .ok b → Q 0 M) →
    zg_X10_fit_416 l s0 G ca d C S w0 t s (if c = 0 then -1 else ((rWp xs i : Nat) : Int)) M Q X := by
  obtain ⟨k, k1, k2, k3, k4, -⟩ := r_kid0 hC hF hs (Or.inr (Or.inl hk7))
  have hlen := hC.len
  intro c
  induction c with
  | zero =>
    intro i n _ _ kE kO
    refine zs_X10_fit_416 Γ (by omega) hok ht ?_
    unfold zt_X10_fit_416
    rw [if_pos rfl]
    exact ⟨fun _ => kO [] rfl, fun c9 => absurd (by decide) c9⟩
  | succ c ih =>
    intro i n hk hh kE kO
    obtain ⟨g1, g2, g3, g4, g5, g6⟩ := kidsL_step hk
    obtain ⟨n1, n2, n3, -, -, -, n7, -⟩ := r_nd hT g1
    obtain ⟨h1, h2, h3, h4, -⟩ := rTx_at hT g1
    obtain ⟨vs, hvs⟩ := Option.isSome_iff_exists.mp g5
    obtain ⟨k9, k10, k11⟩ := h1 vs hvs
    have hjk : jk (xx xs i) = 1 := by unfold jk; rw [hvs]; rfl
    have hrp : rP xs i = rWp xs i + 1 := by unfold rP; rw [hjk]
    have hkey : M (t + 7) (rWp xs i : Nat) = (rP xs i : Nat) := by rw [k10, hrp]; omega
    refine zs_X10_fit_416 Γ (by omega) hok ht ?_
    unfold zt_X10_fit_416
    rw [if_neg (Nat.succ_ne_zero c), w32_id (by omega) (by omega), k1, k3, hkey]
    unfold xKid sCat at kE kO
    refine ⟨fun c9 => by omega, fun _ => ⟨⟨by omega, by omega⟩, ⟨by omega, by omega⟩, ⟨by omega, by omega⟩, ?_⟩⟩
    refine hI (d - 1) i (sKid0 st.ns s) M _ X (by omega) g1 k4 (hh i List.mem_cons_self) hT hC (fun e he => kE e (by rw [he]; rfl)) (fun b he => ?_)
    rw [hkey]
    refine ⟨⟨by omega, by omega⟩, ?_⟩
    rw [he] at kE kO
    rw [show sMap (fun b => sKyb xs i ++ b) (Except.ok b) = .ok (sKyb xs i ++ b) from rfl] at kE kO
    dsimp only at kE kO
    have hnx : M (t + 7) ((rP xs i : Nat) : Int) = (if c = 0 then -1 else ((rWp xs (i + (xx xs i).sz) : Nat) : Int)) := by
      rw [n7, g4]
      by_cases c0 : c = 0
      · rw [if_pos c0, if_neg (by rw [decide_eq_false (by omega)]; exact fun h => nomatch h)]
      · rw [if_neg c0, if_pos (decide_eq_true (by omega))]
    rw [hnx]
    exact ih _ _ g6 (fun j hj => hh j (List.mem_cons_of_mem _ hj)) (fun e he2 => kE e (by rw [he2]; rfl)) (fun b2 he2 => kO ((sKyb xs i ++ b) ++ b2) (by rw [he2]; rfl))
theorem r_ffL (Γ : rt_Γ l s0 a0 G ca) {m : Nat} (hd : 2 * m + 21 ≤ d) (hok : zok C) (ht : zTx S t) (hvl : v < xs.length) (hk1 : (xx xs v).kd = 1) (hI : ∀ (j : Nat) (w : List Int32), xMem xs v w = some j → ∃ m' : Nat, m = m' + 1 ∧ hv xs m' j ∧ rFt l s0 G ca C S xs t st m') (hT : rTx M t xs) (hC : rC M t xs st) {w0 : rt_Wd} : ∀ (ps : List SP) (h : Int), rCh M t xs 11 ps h → (∀ q ∈ ps, ∃ nd : Nat, q.nd = some nd ∧ nd < 6 + st.ns.length) →
    (∀ e : Nat, sFlw xs v (sDv xs st.ns m) ps = .error e → rE t M X (12, e)) → (∀ b : List Nat, sFlw xs v (sDv xs st.ns m) ps = .ok b → Q 0 M) →
    zg_X10_fit_492 l s0 G ca d C S w0 t (rP xs v : Nat) ((xx xs v).bg : Nat) h M Q X := by
  have hlen := hC.len
  intro ps
  induction ps with
  | nil =>
    intro h hc _ kE kO
    have e : h = -1 := hc
    rw [e]
    refine zs_X10_fit_492 Γ (by omega) hok ht ?_
    unfold zt_X10_fit_492
    exact ⟨fun _ => kO [] rfl, fun c9 => absurd (by decide) c9⟩
  | cons q r ih =>
    intro h hc hall kE kO
    obtain ⟨rfl, h2, ⟨g0, h3, -⟩, h4⟩ := hc
    obtain ⟨u, y1, y2, y3, y4⟩ := h3 (Or.inr rfl)
    obtain ⟨nd, nd1, nd2⟩ := hall q List.mem_cons_self
    have hsp : sPn (some q) = nd := by
      unfold sPn
      dsimp only
      rw [nd1]
    refine zs_X10_fit_492 Γ (by omega) hok ht ?_
    unfold zt_X10_fit_492 zt_X10_fit_522
    rw [w32_id (x := (q.kn : Int)) (by omega) (by omega), y1]
    refine ⟨fun c => by omega, fun _ => ⟨⟨by omega, by omega⟩, ?_⟩⟩
    refine r_ml Γ (by omega) hok ht hT hvl hk1 y2 y3 ?_
    rw [y4]
    unfold sFlw at kE kO
    cases hmm : xMem xs v q.nm with
    | none =>
      rw [hmm] at kE
      refine ⟨fun _ => ?_, fun c => absurd (show w32 (-1) < 0 by decide) c⟩
      exact r_need Γ (by omega) hok ht (fun _ M1 f1 => kE _ rfl M1 f1) (fun c => absurd (by decide) c)
    | some j =>
      rw [hmm] at kE kO
      dsimp only at kE kO
      obtain ⟨-, -, hj⟩ := xMem_mem hT.2.1 hvl hmm
      obtain ⟨m', hmm', hvj, hIj⟩ := hI j q.nm hmm
      obtain ⟨-, -, j3, -⟩ := r_nd hT hj
      rw [show oR xs (some j) = ((rP xs j : Nat) : Int) from rfl, w32_id (x := ((rP xs j : Nat) : Int)) (by omega) (by omega)]
      refine ⟨fun c => by omega, fun _ => ?_⟩
      refine r_need Γ (by omega) hok ht (fun c => absurd c (by decide)) (fun _ => ⟨⟨by omega, by omega⟩, ?_⟩)
      rw [g0 nd nd1]
      rw [hsp, hmm'] at kE kO
      refine hIj (d - 1) j nd M _ X (by omega) hj nd2 hvj hT hC (fun e he => kE e (by rw [he])) (fun b he => ?_)
      rw [he] at kE kO
      dsimp only at kE kO
      rw [← hmm'] at kE kO
      exact ih _ h4 (fun q2 hq => hall q2 (List.mem_cons_of_mem _ hq)) (fun e he2 => kE e (by rw [he2]; rfl)) (fun b2 he2 => kO (b ++ b2) (by rw [he2]; rfl))
end VOs
