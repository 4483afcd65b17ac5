/-! ===== the Filler: what it stands on; letters, strings, plain values ===== -/
/-- the plan's nodes and parts say st -/
def gC (M : zM) (p : Int) (NU : Nat) (st : SS) : Prop := (∀ i : Nat, i < 6 → M (p + 2) i = i) ∧ (∀ (i : Nat) (n : SN), st.ns[i]? = some n → nC M p NU n (6 + i) (nTot (st.ns.take i))) ∧ st.ns.length ≤ 128 ∧ nTot st.ns ≤ 2048 ∧ NU ≤ 4096 ∧ wOk M p st.ns
theorem sC.g {M : zM} {p : Int} {NU : Nat} {st : SS} (h : sC M p NU st) : gC M p NU st := ⟨h.2.2.1, h.2.2.2.1, Nat.le_trans h.2.2.2.2.2.2.1 h.2.2.2.2.2.2.2.1, h.2.2.2.2.2.2.2.2.1, h.2.2.2.2.2.2.2.2.2.1, h.2.2.2.2.2.2.2.2.2.2.2.2⟩
theorem gC.fr {M M1 : zM} {p : Int} {NU : Nat} {st : SS} (h : gC M p NU st) (e : ∀ a : Int, (p + 2 ≤ a ∧ a ≤ p + 16) ∨ a = p + 22 → M1 a = M a) : gC M1 p NU st := by
  obtain ⟨h1, h2, h3, h4, h5, h6⟩ := h
  refine ⟨fun i hi => by rw [e (p + 2) (by omega)]; exact h1 i hi, fun i n hn => ?_, h3, h4, h5, h6.up (Nat.le_refl _) (fun j _ => by rw [e (p + 8) (by omega)]) (fun i n h => Or.inl h)⟩
  have := h2 i n hn
  unfold nC at this ⊢
  have ep : ∀ (kd P : Nat) (o : Option SP), pC M1 p NU kd P o = pC M p NU kd P o := fun kd P o => by
    unfold pC
    cases o with
    | none => simp only [e (p + 16) (by omega)]
    | some q => simp only [e (p + 16) (by omega), e (p + 22) (by omega), e (p + 14) (by omega)]
  simp only [ep]
  rw [e (p + 2) (by omega), e (p + 4) (by omega), e (p + 22) (by omega), e (p + 12) (by omega), e (p + 10) (by omega), e (p + 6) (by omega)]
  exact this
/-- all nodes are whole -/
def kF (st : SS) : Prop := ∀ (j : Nat) (n : SN), st.ns[j]? = some n → fN (kK st) n
theorem g_kd {M : zM} {p : Int} {NU : Nat} {st : SS} (h : gC M p NU st) {s : Nat} (hs : s < 6 + st.ns.length) : zat M (p + 2) 134 (s : Int) = ((nN st.ns s).kd : Int) := by
  have hl := h.2.2.1
  rw [zat_in (by omega) (by omega) (by decide)]
  by_cases h6 : s < 6
  · unfold nN
    rw [if_pos h6]
    exact h.1 s h6
  · have hg : st.ns[s - 6]? = some st.ns[s - 6] := List.getElem?_eq_getElem (by omega)
    have := (h.2.1 _ _ hg).1
    have e := nN_at hg
    rw [show 6 + (s - 6) = s by omega] at this e
    rw [e]
    exact this
/-- a node of parts is one behind the six -/
theorem nN_ge {ns : List SN} {s : Nat} (h : 6 ≤ (nN ns s).kd) : 6 ≤ s := by
  refine Nat.le_of_not_lt (fun c => ?_)
  unfold nN at h
  rw [if_pos c] at h
  have : 6 ≤ s := h
  omega
theorem nN_some {ns : List SN} {s : Nat} (h6 : 6 ≤ s) (hs : s < 6 + ns.length) : ∃ i : Nat, s = 6 + i ∧ ns[i]? = some (nN ns s) := by
  refine ⟨s - 6, by omega, ?_⟩
  unfold nN
  rw [if_neg (by omega), List.getD_eq_getElem?_getD, List.getElem?_eq_getElem (show s - 6 < ns.length by omega)]
  rfl
theorem g_itm {M : zM} {p : Int} {NU : Nat} {st : SS} (h : gC M p NU st) (hF : kF st) {s : Nat} (hs : s < 6 + st.ns.length) (hk : (nN st.ns s).kd = 6 ∨ (nN st.ns s).kd = 7) : zat M (p + 6) 134 (s : Int) = (sKid0 st.ns s : Int) ∧ sKid0 st.ns s < 6 + st.ns.length := by
  have hl := h.2.2.1
  rw [zat_in (by omega) (by omega) (by decide)]
  obtain ⟨i, rfl, hi⟩ := nN_some (ns := st.ns) (s := s) (nN_ge (ns := st.ns) (by omega)) hs
  generalize nN st.ns (6 + i) = n at hk hi
  have hn := h.2.1 i n hi
  obtain ⟨q, hq⟩ := (hF i n hi).1 hk
  obtain ⟨m, m1, m2, -⟩ := (hF i n hi).2.1 (by omega) q (by rw [hq]; exact List.mem_singleton.mpr rfl)
  have e : sKid0 st.ns (6 + i) = m := by
    unfold sKid0
    rw [nN_at hi, hq]
    show sPn (some q) = m
    unfold sPn
    dsimp only
    rw [m1]
  rw [e]
  rw [kK_len] at m2
  exact ⟨(hn.2.2.2.2.2.1 hk).2 q m (by rw [hq]; rfl) m1, m2⟩
/-- the part k of a node -/
theorem g_prt {M : zM} {p : Int} {NU : Nat} {st : SS} (h : gC M p NU st) (hF : kF st) {i k : Nat} {n : SN} {q : SP} (hi : st.ns[i]? = some n) (hk : ¬ (n.kd = 6 ∨ n.kd = 7)) (hq : n.ps[k]? = some q) :
    M (p + 12) ((6 + i : Nat) : Int) = (n.ps.length : Int) ∧ M (p + 10) ((6 + i : Nat) : Int) = (nTot (st.ns.take i) : Int) ∧ nTot (st.ns.take i) + n.ps.length ≤ 2048 ∧ pC M p NU n.kd (nTot (st.ns.take i) + k) (some q) ∧ k < n.ps.length := by
  obtain ⟨h1, h2, h3, h4, h5, h6, h7⟩ := h.2.1 i n hi
  have hc := (hF i n hi).2.2.2.1 hk
  have hkl := (List.getElem?_eq_some_iff.mp hq).1
  have ht := nTot_in hi
  have h48 := h.2.2.2.1
  have := (h7 hk).2.2 k (by omega)
  rw [hq] at this
  exact ⟨by rw [h4, hc], h5 (by omega), by omega, this, hkl⟩
theorem g_brn {M : zM} {p : Int} {NU : Nat} {st : SS} (h : gC M p NU st) (hF : kF st) {s : Nat} (hs : s < 6 + st.ns.length) (hk : (nN st.ns s).kd = 8) : zf_X6_branch M p s 0 = (sKid0 st.ns s : Int) ∧ sKid0 st.ns s < 6 + st.ns.length ∧ nuN (kK st) (sKid0 st.ns s) := by
  have hl := h.2.2.1
  obtain ⟨i, rfl, hi⟩ := nN_some (ns := st.ns) (s := s) (nN_ge (ns := st.ns) (by omega)) hs
  generalize nN st.ns (6 + i) = n at hk hi
  have h1 := (hF i n hi).2.2.1 hk
  obtain ⟨q, hq⟩ : ∃ q : SP, n.ps[0]? = some q := ⟨_, List.getElem?_eq_getElem (by omega)⟩
  obtain ⟨m, m1, m2, m3⟩ := (hF i n hi).2.1 (by omega) q (List.mem_of_getElem? hq)
  obtain ⟨g1, g2, g3, g4, g5⟩ := g_prt h hF hi (by omega) hq
  have e : sKid0 st.ns (6 + i) = m := by
    unfold sKid0
    rw [nN_at hi, hq]
    unfold sPn
    dsimp only
    rw [m1]
  rw [e]
  rw [kK_len] at m2
  refine ⟨?_, m2, m3 hk⟩
  unfold zf_X6_branch
  rw [if_neg (show ¬ w32 0 < 0 by decide), zat_in (a := p + 12) (by omega) (by omega) (by decide), g1, w32_id (x := ((n.ps.length : Nat) : Int)) (by omega) (by omega), if_neg (show ¬ ((n.ps.length : Nat) : Int) ≤ w32 0 by rw [show w32 0 = 0 by decide]; omega), zat_in (a := p + 10) (by omega) (by omega) (by decide), g2, zat_in (by omega) (by omega) (by decide)]
  exact g4.2.2 m m1
/-- the letters are bytes -/
def xL (xs : List JR) : Prop := ∀ i : Nat, i < xs.length → ((xx xs i).kd = 3 → ∀ c ∈ (xx xs i).ws, 0 ≤ c.toInt ∧ c.toInt < 256) ∧ ∀ k : List Int32, (xx xs i).kw = some k → ∀ c ∈ k, 0 ≤ c.toInt ∧ c.toInt < 256
def fSh (S : zS) (p : Int) : Prop := sSh S p ∧ S 25 = some (0, 2, [(3, 6), (3, p), (0, 0)])
/-- what the Filler may write -/
def ffr (p : Int) (M M1 : zM) : Prop := ∀ a j : Int, ¬ (a = 25 ∧ j = 2) → ¬ (a = p + 23 ∧ j = 1) → ¬ a = p + 24 → M1 a j = M a j
theorem ffr.rf {p : Int} {M : zM} : ffr p M M := fun _ _ _ _ _ => rfl
theorem ffr.tr {p : Int} {M M1 M2 : zM} (h1 : ffr p M M1) (h2 : ffr p M1 M2) : ffr p M M2 := fun a j n1 n2 n3 => (h2 a j n1 n2 n3).trans (h1 a j n1 n2 n3)
theorem ffr.a {p : Int} {M M1 : zM} (h : ffr p M M1) {a : Int} (n1 : ¬ a = 25) (n2 : ¬ a = p + 23) (n3 : ¬ a = p + 24) : M1 a = M a := funext fun j => h a j (fun c => n1 c.1) (fun c => n2 c.1) n3
theorem apB.f {p : Int} {M M1 : zM} {U : Nat} {bs : List Nat} (h : apB M M1 (p + 23) (p + 24) U bs) : ffr p M M1 := fun a j n1 n2 n3 => h.2.2 a j n2 (fun c => n3 c.1)
theorem avF.f {p : Int} {M M1 : zM} {U n : Nat} (h : avF M M1 (p + 23) (p + 24) U n) : ffr p M M1 := fun a j n1 n2 n3 => h.2 a j n2 (fun c => n3 c.1)
theorem ffr.zu {p : Int} {M M1 : zM} (h : ffr p M M1) {x : Int} : ffr p M (zu M1 25 2 x) := fun a j n1 n2 n3 => (if_neg n1).trans (h a j n1 n2 n3)
theorem cTx.ff {p : Int} {M M1 : zM} {xs : List JR} (hT : cTx M xs) (h : ffr p M M1) (hp : 30 ≤ p) : cTx M1 xs := hT.fr (fun a h1 h2 => h.a (by omega) (by omega) (by omega))
theorem gC.ff {p : Int} {M M1 : zM} {NU : Nat} {st : SS} (hG : gC M p NU st) (h : ffr p M M1) (hp : 30 ≤ p) : gC M1 p NU st := hG.fr (fun a ha => h.a (by omega) (by omega) (by omega))
theorem apB.w {p : Int} {M M1 : zM} {U : Nat} {bs : List Nat} (h : apB M M1 (p + 23) (p + 24) U bs) (hp : 30 ≤ p) : M1 25 2 = M 25 2 := h.2.2 25 2 (by omega) (by omega)
/-- a value that does not fit -/
def fF (p : Int) (M M1 : zM) (U W e : Nat) : Prop := M1 25 2 = (e : Int) ∧ (∃ w : Nat, M1 (p + 23) 1 = (w : Int) ∧ U ≤ w ∧ w ≤ W) ∧ ffr p M M1
theorem fF.up {p : Int} {M M1 : zM} {U W W2 e : Nat} (h : fF p M M1 U W e) (hW : W ≤ W2) : fF p M M1 U W2 e := by
  obtain ⟨h1, ⟨w, w1, w2, w3⟩, h3⟩ := h
  exact ⟨h1, ⟨w, w1, w2, by omega⟩, h3⟩
theorem fF.app {p : Int} {M M1 M2 : zM} {U W e : Nat} {bs : List Nat} (h1 : apB M M1 (p + 23) (p + 24) U bs) (h : fF p M1 M2 (U + bs.length) W e) : fF p M M2 U W e := by
  obtain ⟨k1, ⟨w, w1, w2, w3⟩, k3⟩ := h
  exact ⟨k1, ⟨w, w1, by omega, w3⟩, h1.f.tr k3⟩
/-- the promise of what puts -/
def fIt (p : Int) (M : zM) (Q : Int → zM → Prop) (U W : Nat) (r : Except Nat (List Nat)) : Prop :=
  (∀ e : Nat, r = .error e → ∀ (x : Int) (M1 : zM), fF p M M1 U W e → Q x M1) ∧ (∀ bs : List Nat, r = .ok bs → ∀ M1 : zM, U + bs.length ≤ W → apB M M1 (p + 23) (p + 24) U bs → Q 0 M1)
theorem w64_nat {n : Nat} (h : n < 2147483648) : w64 (w32 (n : Int)) = (n : Int) := by
  rw [w32_id (by omega) (by omega), w64_id (by omega) (by omega)]
section VIs
variable {l : Launch} {s0 : State} {a0 : Array Value} {G : va_G} {ca : Nat → ClassId} {d : Nat} {C : Nat × Nat} {S : zS} {M : zM} {Q : Int → zM → Prop} {X : zM → Prop} {xs : List JR} {v : Nat} {p : Int} {NU U W : Nat} {st : SS}
theorem sLtr_len {ws : List Int32} : (sLtr ws).length = ws.length := List.length_map _
theorem sLtr_get {ws : List Int32} (hx : ∀ c ∈ ws, 0 ≤ c.toInt ∧ c.toInt < 256) {j : Nat} (hj : j < ws.length) : ((sLtr ws).getD j 0 : Int) = (ws.getD j 0).toInt := by
  unfold sLtr
  rw [List.getD_eq_getElem?_getD, List.getD_eq_getElem?_getD, List.getElem?_map, List.getElem?_eq_getElem hj]
  have := hx _ (List.getElem_mem hj)
  show ((ws[j].toInt.toNat : Nat) : Int) = ws[j].toInt
  omega
theorem f_letters (Γ : rt_Γ l s0 a0 G ca) (hd : 1 ≤ d) (hok : zok C) (hS : fSh S p) {lu : Nat} {w : Int} {ws : List Int32} (hw : wd (M 23) lu w ws) (hlu : lu ≤ 4096) (hx : ∀ c ∈ ws, 0 ≤ c.toInt ∧ c.toInt < 256) (hU : M (p + 23) 1 = (U : Int)) (hR : U + ws.length ≤ 8192) (hQ : ∀ M1 : zM, apB M M1 (p + 23) (p + 24) U (sLtr ws) → Q 0 M1) : zm_X2_putLetters l s0 G ca d C S w M Q X := by
  obtain ⟨⟨hs, hp, hs24, hs6, hp0⟩, hs25⟩ := hS
  obtain ⟨L, rfl, w2, w3, w4⟩ := hw
  refine z_X2_putLetters Γ hd hok hs hp hs25 hs6 ?_
  unfold zt_X2_putLetters
  have c21 := hp.2.2.2.2.2.2.2.2.2.2.2.2.2
  have c22 : zCe S 22 23 4096 := ⟨by decide, by decide, by decide, hs 22 _ rfl, hs 23 _ rfl⟩
  refine ⟨p + 24, 8192, c21, ?_⟩
  rw [zat_in (by omega) (by omega) (by decide), w3, show (L : Int) + 1 = ((L + 1 : Nat) : Int) by omega, show ((L + 1 : Nat) : Int) + ((ws.length : Nat) : Int) = ((L + 1 + (sLtr ws).length : Nat) : Int) by rw [sLtr_len]; omega]
  refine c_addP Γ hok c21 (by omega) c22 hU (by omega) (by rw [sLtr_len]; omega) (fun j hj => ?_) (fun _ M1 f => hQ M1 f) (fun h => ?_)
  · rw [sLtr_len] at hj
    rw [w4 j hj, sLtr_get hx hj]
  · rw [sLtr_len] at h
    omega
theorem f_string (Γ : rt_Γ l s0 a0 G ca) (hd : 3 ≤ d) (hok : zok C) (hS : fSh S p) {lu : Nat} {w : Int} {ws : List Int32} (hw : wd (M 23) lu w ws) (hlu : lu ≤ 4096) (hx : ∀ c ∈ ws, 0 ≤ c.toInt ∧ c.toInt < 256) (hU : M (p + 23) 1 = (U : Int)) (hR : U + (2 + ws.length) ≤ 8192) (hQ : ∀ M1 : zM, (sStr ws).length ≤ 2 + ws.length → apB M M1 (p + 23) (p + 24) U (sStr ws) → Q 0 M1) : zm_X2_putString l s0 G ca d C S w M Q X := by
  have hS0 := hS
  obtain ⟨⟨hs, hp, hs24, hs6, hp0⟩, hs25⟩ := hS
  have hw0 := hw
  obtain ⟨L, rfl, w2, w3, w4⟩ := hw
  refine z_X2_putString Γ (by omega) hok hs hp hs25 hs6 ?_
  unfold zt_X2_putString
  have c21 := hp.2.2.2.2.2.2.2.2.2.2.2.2.2
  refine ⟨p + 24, 8192, c21, ?_⟩
  rw [zat_in (by omega) (by omega) (by decide), w3]
  have hsh := vB_short (n := ws.length) (by omega)
  refine c_addV Γ (by omega) hok c21 (by omega) hU (by omega) (fun _ M1 f => ?_) (fun h => ?_)
  · rw [w64_nat (by omega)] at f
    refine f_letters Γ (by omega) hok hS0 (hw0.mono (Nat.le_refl _) (fun j _ _ => ?_)) hlu hx f.1 (by omega) (fun M2 g => hQ M2 ?_ (f.app (by omega) g))
    · exact f.2.2 23 j (by omega) (by omega)
    · unfold sStr
      rw [List.length_append, sLtr_len]
      omega
  · rw [w64_nat (by omega)] at h
    omega
end VIs
