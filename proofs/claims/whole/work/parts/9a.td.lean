/-! ===== the reference's symbols ===== -/
theorem nd_len : ∀ (N : Nat) (l : List Nat), l.Pairwise (fun a b => ¬ a = b) → (∀ x ∈ l, x < N) → l.length ≤ N := by
  intro N
  induction N with
  | zero =>
    intro l _ h
    cases l with
    | nil => exact Nat.le_refl _
    | cons a r => exact absurd (h a List.mem_cons_self) (Nat.not_lt_zero _)
  | succ N ih =>
    intro l hp h
    by_cases c : N ∈ l
    · have h1 : (l.erase N).Pairwise (fun a b => ¬ a = b) := hp.sublist List.erase_sublist
      have h2 := ih _ h1 (fun x hx => by
        have hx1 := h x (List.mem_of_mem_erase hx)
        have hx2 : ¬ x = N := fun e => by
          rw [e] at hx
          exact List.Nodup.not_mem_erase hp hx
        omega)
      rw [List.length_erase_of_mem c] at h2
      omega
    · have := ih l hp (fun x hx => by
        have hx1 := h x hx
        have hx2 : ¬ x = N := fun e => c (by rw [← e]; exact hx)
        omega)
      omega
theorem kV.len {st : SS} (hV : kV st) {i : Nat} {n : SN} (hi : st.ns[i]? = some n) : n.ps.length ≤ st.kc := by
  have h := nd_len st.kc (n.ps.map (fun q => q.kn)) (List.pairwise_map.mpr (hV.1.2.2 i n hi)) (fun x hx => by
    obtain ⟨q, h1, h2⟩ := List.mem_map.mp hx
    rw [← h2]
    exact hV.1.1 i n q hi h1)
  rw [List.length_map] at h
  exact h
/-- symbols and then the fallback -/
def sSyF (xs : List JR) (v s : Nat) (l : List Nat) (st : SS) : Except (Nat × Nat) (Nat × SS) :=
  match sSym xs s l st with
  | .error e => .error e
  | .ok st1 => sFbk xs v s st1
section TDs
variable {l : Launch} {s0 : State} {a0 : Array Value} {G : va_G} {ca : Nat → ClassId} {d : Nat} {C : Nat × Nat} {S : zS} {M : zM} {Q : Int → zM → Prop} {X : zM → Prop} {xs : List JR} {v : Nat} {t : Int} {st : SS}
theorem rC_cnt (hC : rC M t xs st) (hV : kV st) {i : Nat} {n : SN} (hi : st.ns[i]? = some n) (ct : Nat) : rC M t xs (sCnt st (6 + i) ct) := by
  unfold sCnt
  rw [nN_at hi]
  exact rC_upd hC hV.1 hi (n' := (n.kd, n.nm, n.dt, ct, n.ps)) rfl (fun _ _ _ _ => rfl) (hC.2.2.1 i n hi)
theorem r_symb (Γ : rt_Γ l s0 a0 G ca) (hd : 2 ≤ d) (hok : zok C) (ht : zTx S t) (hT : rTx M t xs) (hv : v < xs.length) (hk : (xx xs v).kd = 3) (hC : rC M t xs st) {i : Nat} {n : SN} (hi : st.ns[i]? = some n) (hkd : n.kd = 10 ∨ n.kd = 11) (hQ : Q (oI (sPrt n.ps (xx xs v).ws)) M) : zm_X10_symbol l s0 G ca d C S t ((6 + i : Nat) : Int) t (rP xs v : Nat) M Q X := by
  have hil := (List.getElem?_eq_some_iff.mp hi).1
  have hlen : st.ns.length ≤ 128 := Nat.le_trans hC.2.2.2.2.1 hC.2.2.2.2.2.1
  refine z_X10_symbol Γ (by omega) hok ht ?_
  unfold zt_X10_symbol
  exact ⟨⟨by omega, by omega⟩, r_symL Γ hd hok ht hT hv hk hkd n.ps _ 0 (hC.2.2.1 i n hi).2.2.2.2.1 hQ⟩
/-- no symbol yet is that string -/
theorem r_sK (Γ : rt_Γ l s0 a0 G ca) (hd : 3 ≤ d) (hok : zok C) (ht : zTx S t) (hT : rTx M t xs) (hv : v < xs.length) (hk : (xx xs v).kd = 3) {w0 : rt_Wd} {v1 v2 v4 : Int} : ∀ (ps : List SP) (h : Int) (i : Nat), rCh M t xs 10 ps h →
    (¬ sPrtL (xx xs v).ws ps i = none → rE t M X (11, (xx xs v).bg)) →
    (sPrtL (xx xs v).ws ps i = none → zg_X10_symbols_120 l s0 G ca d C S w0 t v1 v2 v4 (rP xs v : Nat) (-1) M Q X) →
    zg_X10_symbols_120 l s0 G ca d C S w0 t v1 v2 v4 (rP xs v : Nat) h M Q X := by
  obtain ⟨-, n2, n3, -⟩ := r_nd hT hv
  intro ps
  induction ps with
  | nil =>
    intro h i hc _ hQ
    have e : h = -1 := hc
    rw [e]
    exact hQ rfl
  | cons q r ih =>
    intro h i hc hE hQ
    obtain ⟨rfl, h2, ⟨-, h3, -⟩, h4⟩ := hc
    obtain ⟨u, y1, y2, y3, y4⟩ := h3 (Or.inl rfl)
    obtain ⟨L, g1, g2, g3⟩ := r_str hT hv hk
    obtain ⟨L2, f1, f2, f3⟩ := r_str hT y2 y3
    refine zs_X10_symbols_120 Γ (by omega) hok ht ?_
    unfold zt_X10_symbols_120 zt_X10_symbols_148
    rw [w32_id (x := (q.kn : Int)) (by omega) (by omega), y1]
    unfold sPrtL at hE hQ
    refine ⟨fun c => by omega, fun _ => ⟨⟨by omega, by omega⟩, ?_⟩⟩
    refine q_same Γ hok ht ht (by omega) (by omega) (by omega) (by omega) f1 g1 (by omega) (by omega) (fun e => ?_) (fun e => ?_)
    · rw [if_pos (by rw [← y4]; exact e)] at hE
      exact ⟨fun c => absurd c (by decide), fun _ => ⟨⟨by omega, by omega⟩, r_need Γ (by omega) hok ht (fun _ M1 f1 => hE (fun c => nomatch c) M1 (by rw [n2] at f1; exact f1)) (fun c1 => absurd (by decide) c1)⟩⟩
    · rw [if_neg (fun c => e (by rw [y4]; exact c))] at hE hQ
      exact ⟨fun _ => ⟨⟨by omega, by omega⟩, r_need Γ (by omega) hok ht (fun c1 => absurd c1 (by decide)) (fun _ => ⟨⟨by omega, by omega⟩, ih _ (i + 1) h4 hE hQ⟩)⟩, fun c => absurd (by decide) c⟩
theorem r_fbk (Γ : rt_Γ l s0 a0 G ca) (hd : 6 ≤ d) (hok : zok C) (ht : zTx S t) (hT : rTx M t xs) (hv : v < xs.length) (hk1 : (xx xs v).kd = 1) (hC : rC M t xs st) (hV : kV st) {i : Nat} {n : SN} (hi : st.ns[i]? = some n) (hkd : n.kd = 10) {w0 : rt_Wd} {q204 : Nat} (h204 : zstr s0 q204 [100, 101, 102, 97, 117, 108, 116])
    (kE : ∀ e : Nat × Nat, sFbk xs v (6 + i) st = .error e → rE t M X e) (kO : ∀ st1 : SS, sFbk xs v (6 + i) st = .ok (6 + i, st1) → rO t xs M (fun _ M1 => Q 0 M1) (6 + i) st1) :
    zm_X10_member l s0 G ca (d - 1) C S t (rP xs v : Nat) q204 M (fun r207 M207 => zIf (w32 r207 < 0) (Q 0 M207) ((0 ≤ r207 ∧ r207 < 4200) ∧ (zIf (w32 (M207 (t + 2) r207) = 2) (zm_X10_symbol l s0 G ca (d - 1) C S t ((6 + i : Nat) : Int) t r207 M207 (fun r234 M234 => zIf (w32 r234 < 0) (zt_X10_symbols_244 l s0 G ca d C S w0 t ((6 + i : Nat) : Int) r207 M234 Q X) (zt_X10_symbols_245 l s0 G ca d C S w0 t ((6 + i : Nat) : Int) r207 1 M234 Q X)) X) (zt_X10_symbols_244 l s0 G ca d C S w0 t ((6 + i : Nat) : Int) r207 M207 Q X)))) X := by
  refine r_mem Γ (by omega) hok ht hT hv hk1 h204 ?_
  have hil := (List.getElem?_eq_some_iff.mp hi).1
  have hlen : st.ns.length ≤ 128 := Nat.le_trans hC.2.2.2.2.1 hC.2.2.2.2.2.1
  unfold sFbk at kE kO
  rw [nN_at hi] at kE kO
  cases hm : xMem xs v (iw [100, 101, 102, 97, 117, 108, 116]) with
  | none =>
    rw [hm] at kO
    exact ⟨fun _ => kO st rfl M hC sfr.rf, fun c => absurd (show w32 (-1) < 0 by decide) c⟩
  | some b =>
    rw [hm] at kE kO
    dsimp only at kE kO
    obtain ⟨-, -, hb⟩ := xMem_mem hT.2.1 hv hm
    obtain ⟨n1, n2, n3, n4, n5, n6, n7, n8, n9, n10⟩ := r_nd hT hb
    rw [show oR xs (some b) = ((rP xs b : Nat) : Int) from rfl]
    have bad : rE t M X (12, (xx xs b).bg) → zt_X10_symbols_244 l s0 G ca d C S w0 t ((6 + i : Nat) : Int) ((rP xs b : Nat) : Int) M Q X := fun h => by
      unfold zt_X10_symbols_244 zt_X10_symbols_245
      exact ⟨⟨by omega, by omega⟩, r_need Γ (by omega) hok ht (fun _ M1 f1 => h M1 (by rw [n2] at f1; exact f1)) (fun c => absurd (by decide) c)⟩
    rw [w32_id (x := ((rP xs b : Nat) : Int)) (by omega) (by omega), n1, w32_id (x := ((xx xs b).kd : Int) - 1) (by omega) (by omega)]
    refine ⟨fun c => by omega, fun _ => ⟨⟨by omega, by omega⟩, fun c => ?_, fun c => bad ?_⟩⟩
    · have hk : (xx xs b).kd = 3 := by omega
      rw [if_pos hk] at kE kO
      have bp := oI_none (o := sPrt n.ps (xx xs b).ws) (fun m h => by have h3 := sPrtL_lt _ _ _ _ h; have h4 := hV.len hi; have h5 : st.kc ≤ 2100 := hC.2.2.2.2.2.2.1; omega)
      refine r_symb Γ (by omega) hok ht hT hb hk hC hi (Or.inl hkd) ?_
      cases hp : sPrt n.ps (xx xs b).ws with
      | none =>
        rw [hp] at kE
        exact ⟨fun _ => bad (kE _ rfl), fun c => absurd (show w32 (oI none) < 0 by decide) c⟩
      | some k =>
        rw [hp] at kO bp
        have hk9 : ¬ w32 (oI (some k)) < 0 := fun c => by
          have : k < 2147483648 := by
            have h3 := sPrtL_lt _ _ _ _ hp
            have h4 := hV.len hi
            have h5 : st.kc ≤ 2100 := hC.2.2.2.2.2.2.1
            omega
          rw [oI_w this] at c
          omega
        refine ⟨fun c => absurd c hk9, fun _ => ?_⟩
        unfold zt_X10_symbols_245
        refine ⟨⟨by omega, by omega⟩, r_need Γ (by omega) hok ht (fun c => absurd c (by decide)) (fun _ => ?_)⟩
        refine r_symb Γ (by omega) hok ht hT hb hk hC hi (Or.inl hkd) ?_
        refine ⟨⟨by omega, by omega⟩, ?_⟩
        rw [hp]
        exact kO _ rfl _ (rC_det hC hV.1 hi (Or.inr ⟨hkd, rfl⟩)) (sfr.rf.zu (by omega))
    · rw [if_neg (fun h => c (by omega))] at kE
      exact kE _ rfl
theorem r_symLs (Γ : rt_Γ l s0 a0 G ca) (hd : 7 ≤ d) (hok : zok C) (ht : zTx S t) (hv : v < xs.length) (hk1 : (xx xs v).kd = 1) {w0 : rt_Wd} {i : Nat} : ∀ (c j nn : Nat) (M : zM) (st : SS) (n : SN), kidsL c (xs.drop j) nn false → rTx M t xs → rC M t xs st → kV st → st.ns[i]? = some n → n.kd = 10 → st.kc + nn ≤ 2100 →
    (∀ e : Nat × Nat, sSyF xs v (6 + i) (xKid xs c j) st = .error e → rE t M X e) →
    (∀ st1 : SS, sSyF xs v (6 + i) (xKid xs c j) st = .ok (6 + i, st1) → rO t xs M (fun _ M1 => Q 0 M1) (6 + i) st1) →
    zg_X10_symbols_88 l s0 G ca d C S w0 t ((6 + i : Nat) : Int) (rP xs v : Nat) (lastK n.ps) (if c = 0 then -1 else ((rWp xs j : Nat) : Int)) M Q X := by
  intro c
  induction c with
  | zero =>
    intro j nn M st n hk hT hC hV hi hkd hU kE kO
    refine zs_X10_symbols_88 Γ (by omega) hok ht ?_
    unfold zt_X10_symbols_88
    rw [if_pos rfl]
    exact ⟨fun _ q204 h204 => r_fbk Γ (by omega) hok ht hT hv hk1 hC hV hi hkd h204 kE kO, fun c => absurd (by decide) c⟩
  | succ c ih =>
    intro j nn M st n hk hT hC hV hi hkd hU kE kO
    obtain ⟨g1, g2, g3, g4, g5, g6⟩ := kidsL_step hk
    have hrp := r_el g5
    obtain ⟨n1, n2, n3, n4, n5, n6, n7, -⟩ := r_nd hT g1
    have hil := (List.getElem?_eq_some_iff.mp hi).1
    have hlen : st.ns.length ≤ 128 := Nat.le_trans hC.2.2.2.2.1 hC.2.2.2.2.2.1
    refine zs_X10_symbols_88 Γ (by omega) hok ht ?_
    unfold zt_X10_symbols_88
    rw [if_neg (Nat.succ_ne_zero c), ← hrp, w32_id (by omega) (by omega)]
    unfold sSyF xKid sSym at kE kO
    rw [nN_at hi] at kE kO
    have bad : ¬ ((xx xs j).kd = 3 ∧ sNam (xx xs j).ws = true ∧ sPrt n.ps (xx xs j).ws = none) → rE t M X (11, (xx xs j).bg) := fun h => by
      rw [if_neg h] at kE
      exact kE _ rfl
    refine ⟨fun c9 => by omega, fun _ => ?_⟩
    refine r_nam Γ hok ht hT g1 ⟨⟨by omega, by omega⟩, r_need Γ (by omega) hok ht (fun c9 M1 f1 => bad (fun h => w32_bI.mp c9 ⟨h.1, h.2.1⟩) M1 (by rw [n2] at f1; exact f1)) (fun c9 => ⟨⟨by omega, by omega⟩, ?_⟩)⟩
    have hok2 : (xx xs j).kd = 3 ∧ sNam (xx xs j).ws = true := Decidable.not_not.mp (fun h => c9 (w32_bI.mpr h))
    have hch := (hC.2.2.1 i n hi).2.2.2.2.1
    rw [hkd] at hch
    refine r_sK Γ (by omega) hok ht hT g1 hok2.1 n.ps _ 0 hch (fun ha => bad (fun h => ha h.2.2)) (fun ha => ?_)
    rw [if_pos ⟨hok2.1, hok2.2, ha⟩] at kE kO
    refine zs_X10_symbols_120 Γ (by omega) hok ht ?_
    unfold zt_X10_symbols_120
    refine ⟨fun _ => ?_, fun c9 => absurd (by decide) c9⟩
    have hkc : M t 24 = (st.kc : Int) := hC.1.2.2.1
    refine r_kid Γ hok ht hkc (by omega) (by omega) (by omega) (ps := n.ps) (fun q hq => hV.1.1 i n q hi hq) (fun M2 hF => ⟨⟨by omega, by omega⟩, ⟨by omega, by omega⟩, ?_⟩)
    have fs := hF.sfr
    obtain ⟨r1, r2⟩ := hF.rC hC hV hi (M2 := zu M2 (t + 16) st.kc (rP xs j : Nat)) (nm := (xx xs j).ws) (nd := none) (df := none) (by omega) (fun a b h => if_neg (fun c9 => h ⟨by omega, by omega, c9.2⟩)) ⟨fun m9 h9 => (nomatch h9), fun _ => ⟨j, zu_s _ _ _ _, g1, hok2.1, rfl⟩, fun c9 => absurd hkd (by omega)⟩
    have hi2 : (sAdd st (6 + i) (xx xs j).ws none none).ns[i]? = some (n.kd, n.nm, n.dt, n.ct, n.ps ++ [((xx xs j).ws, none, none, st.kc)]) := by
      unfold sAdd
      rw [nN_at hi]
      exact nPut_at hi
    have hnx : M2 (t + 7) ((rP xs j : Nat) : Int) = (if c = 0 then -1 else ((rWp xs (j + (xx xs j).sz) : Nat) : Int)) := by
      rw [fs.1 (t + 7) (by omega), n7, g4]
      by_cases c0 : c = 0
      · rw [if_pos c0, if_neg (by rw [decide_eq_false (by omega)]; exact fun h => nomatch h)]
      · rw [if_neg c0, if_pos (decide_eq_true (by omega))]
    have e9 : lastK (SN.ps (n.kd, n.nm, n.dt, n.ct, n.ps ++ [((xx xs j).ws, none, none, st.kc)])) = ((st.kc : Nat) : Int) := lastK_app
    rw [hnx]
    have fin := ih _ _ _ _ _ g6 (hT.fr r2) r1 (hV.add hil) hi2 hkd (by show st.kc + 1 + _ ≤ _; omega) (fun e he2 => (kE e he2).fr r2) (fun st2 he2 => (kO st2 he2).fr r2)
    rw [e9] at fin
    exact fin
theorem r_symbols (Γ : rt_Γ l s0 a0 G ca) (hd : 8 ≤ d) (hok : zok C) (ht : zTx S t) (hT : rTx M t xs) (hv : v < xs.length) (hk1 : (xx xs v).kd = 1) (hC : rC M t xs st) (hV : kV st) {i : Nat} {n : SN} (hi : st.ns[i]? = some n) (hkd : n.kd = 10) (hps : n.ps = []) (hU : st.kc + ((xx xs v).sz - 1) ≤ 2100)
    (kE : ∀ e : Nat × Nat, sEnm xs v (6 + i) st = .error e → rE t M X e) (kO : ∀ st1 : SS, sEnm xs v (6 + i) st = .ok (6 + i, st1) → rO t xs M (fun _ M1 => Q 0 M1) (6 + i) st1) :
    zm_X10_symbols l s0 G ca d C S t ((6 + i : Nat) : Int) (rP xs v : Nat) M Q X := by
  refine z_X10_symbols Γ (by omega) hok ht ?_
  unfold zt_X10_symbols
  intro q2 h2
  obtain ⟨v1, v2, v3, -⟩ := r_nd hT hv
  refine r_mem Γ (by omega) hok ht hT hv hk1 h2 ?_
  unfold sEnm at kE kO
  cases hm : xMem xs v (iw [115, 121, 109, 98, 111, 108, 115]) with
  | none =>
    rw [hm] at kE
    refine ⟨fun _ => ?_, fun c => absurd (show w32 (-1) < 0 by decide) c⟩
    unfold zt_X10_symbols_19
    exact ⟨⟨by omega, by omega⟩, r_need Γ (by omega) hok ht (fun _ M1 f1 => kE _ rfl M1 (by rw [v2] at f1; exact f1)) (fun c => absurd (by decide) c)⟩
  | some b =>
    rw [hm] at kE kO
    dsimp only at kE kO
    have one := xMem_one hT.2.1 hv hm
    obtain ⟨-, -, hb⟩ := xMem_mem hT.2.1 hv hm
    obtain ⟨n1, n2, n3, n4, n5, n6, n7, n8, n9, n10⟩ := r_nd hT hb
    obtain ⟨-, hsz, hsz1, hsz2, hln, hkids, -⟩ := jWf_at hT.2.1 hb
    have hl := hT.2.2.1
    refine ⟨fun c => absurd c (by rw [show oR xs (some b) = ((rP xs b : Nat) : Int) from rfl, w32_id (by omega) (by omega)]; omega), fun _ => ?_⟩
    show zt_X10_symbols_19 l s0 G ca d C S _ t _ _ ((rP xs b : Nat) : Int) 1 M Q X
    unfold zt_X10_symbols_19
    refine ⟨⟨by omega, by omega⟩, r_need Γ (by omega) hok ht (fun c => absurd c (by decide)) (fun _ => ⟨⟨by omega, by omega⟩, ?_⟩)⟩
    have bad : ¬ ((xx xs b).kd = 2 ∧ 1 ≤ (xx xs b).len ∧ (xx xs b).len ≤ 32) → zt_X10_symbols_65 l s0 G ca d C S (zw s0 ca C S M) t ((6 + i : Nat) : Int) (rP xs v : Nat) (rP xs b : Nat) M Q X := fun h => by
      rw [if_neg h] at kE
      unfold zt_X10_symbols_65 zt_X10_symbols_66
      exact ⟨⟨by omega, by omega⟩, r_need Γ (by omega) hok ht (fun _ M1 f1 => kE _ rfl M1 (by rw [n2] at f1; exact f1)) (fun c => absurd (by decide) c)⟩
    rw [n1, w32_id (x := ((xx xs b).kd : Int) - 1) (by omega) (by omega)]
    refine ⟨fun c => ?_, fun c => bad (fun h => c (by omega))⟩
    have hk2 : (xx xs b).kd = 2 := by omega
    rw [n4 hk2, w32_id (x := ((xx xs b).len : Int)) (by omega) (by omega)]
    refine ⟨fun c => bad (by omega), fun c => ⟨fun c2 => bad (by omega), fun c2 => ?_⟩⟩
    rw [if_pos ⟨hk2, by omega, by omega⟩] at kE kO
    unfold zt_X10_symbols_66
    refine ⟨⟨by omega, by omega⟩, r_need Γ (by omega) hok ht (fun c => absurd c (by decide)) (fun _ => ?_)⟩
    have hkL := hkids (Or.inr hk2)
    rw [decide_eq_false (by omega)] at hkL
    rw [show ((-1 : Int)) = lastK n.ps by rw [hps]; rfl, n6 (Or.inr hk2)]
    have hil := (List.getElem?_eq_some_iff.mp hi).1
    have hU2 : (sCnt st (6 + i) (xx xs b).len).kc + ((xx xs b).sz - 1) ≤ 2100 := by show st.kc + _ ≤ _; omega
    refine r_symLs (d := d) Γ (by omega) hok ht hv hk1 _ _ _ M (sCnt st (6 + i) (xx xs b).len) (n.kd, n.nm, n.dt, (xx xs b).len, n.ps) hkL hT (rC_cnt hC hV hi _) (hV.cnt hil) ?_ hkd hU2 (fun e he => kE e he) (fun st1 he => kO st1 he)
    unfold sCnt
    rw [nN_at hi]
    exact nPut_at hi
end TDs
