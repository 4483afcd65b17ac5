/-! ===== the reference tells defaults: sDv's bytes ===== -/
theorem rTx.m {M M1 : zM} {t : Int} {xs : List JR} (h : rTx M t xs) (e : ∀ a j : Int, t ≤ a → a ≤ t + 21 → M1 a j = M a j) : rTx M1 t xs := ⟨rRep.fr (fun a h1 h2 => funext fun j => e a j (by omega) (by omega)) h.1, h.2⟩
theorem rTx.u {M M1 : zM} {t : Int} {xs : List JR} {u : Nat} (h : rTx M t xs) (f : uFr u M M1) (ht : 86 ≤ t ∧ t + 21 < 134) : rTx M1 t xs := h.m (fun a j h1 h2 => f a j (by omega) (by omega))
theorem rC.uf {M M1 : zM} {t : Int} {xs : List JR} {st : SS} {u : Nat} (h : rC M t xs st) (f : uFr u M M1) (ht : 86 ≤ t ∧ t + 21 < 134) : rC M1 t xs st := h.m (fun a j h1 h2 => f a j (by omega) (by omega))
theorem sMap_ok {h : List Nat → List Nat} {r : Except Nat (List Nat)} {b : List Nat} (e : sMap h r = .ok b) : ∃ c : List Nat, r = .ok c ∧ b = h c := by
  cases r with
  | error x => exact nomatch e
  | ok c =>
    injection e with e
    exact ⟨c, rfl, e.symm⟩
/-- telling a default: its promise, m brackets from the deepest -/
def rDt (l : Launch) (s0 : State) (G : va_G) (ca : Nat → ClassId) (C : Nat × Nat) (S : zS) (xs : List JR) (t : Int) (st : SS) (m : Nat) : Prop :=
  ∀ (d v s u : Nat) (bs : List Nat) (M : zM) (Q : Int → zM → Prop) (X : zM → Prop), 2 * m + 14 ≤ d → v < xs.length → s < 6 + st.ns.length → hv xs m v → rTx M t xs → rC M t xs st → uS M u → sDv xs st.ns (m + 1) v s = .ok bs → n2 u bs M Q X → zm_X11_tellDefault l s0 G ca d C S t (rP xs v : Nat) s M Q X
section NB9
variable {l : Launch} {s0 : State} {a0 : Array Value} {G : va_G} {ca : Nat → ClassId} {d : Nat} {C : Nat × Nat} {S : zS} {M : zM} {Q : Int → zM → Prop} {X : zM → Prop} {xs : List JR} {v s u : Nat} {t : Int} {st : SS}
theorem vB_0 : vB 0 = [0] := by decide
theorem n_strL (Γ : rt_Γ l s0 a0 G ca) (hd : 3 ≤ d) (hok : zok C) (hS : mSh S t) {n L : Nat} {ws : List Int32} (hn : n < 4200) (hL : L + ws.length ≤ 4200) {w0 : rt_Wd} : ∀ (r : List Int32) (k u : Nat) (M : zM), ws.drop k = r → k ≤ ws.length → rStr M t (n : Int) L ws → uS M u → n2 u (sLtr r) M Q X → zg_X11_tellString_2 l s0 G ca d C S w0 t n k M Q X := by
  obtain ⟨hs, ht, ht1⟩ := id hS
  intro r
  induction r with
  | nil =>
    intro k u M hdr hk hR hU h
    have hlen : ws.length ≤ k := by
      have := congrArg List.length hdr
      rw [List.length_drop, List.length_nil] at this
      omega
    refine zs_X11_tellString_2 Γ (by omega) hok hs ?_
    unfold zt_X11_tellString_2
    rw [hR.2.2.1, w32_id (by omega) (by omega), w32_id (by omega) (by omega)]
    exact ⟨ht, ⟨by omega, by omega⟩, zIf_t (by omega) (h.nil hU.1 hU.2.1)⟩
  | cons c r ih =>
    intro k u M hdr hk hR hU h
    have hz : ws[k]? = some c := by
      have := congrArg (fun l => l[0]?) hdr
      simpa using this
    have hdr2 : ws.drop (k + 1) = r := by
      have := congrArg (List.drop 1) hdr
      rw [List.drop_drop] at this
      exact this
    have hkl := (List.getElem?_eq_some_iff.mp hz).1
    obtain ⟨c1, c2, c3⟩ := hR.2.2.2 k hkl
    have ec : ws.getD k 0 = c := by rw [List.getD_eq_getElem?_getD, hz]; rfl
    rw [ec] at c1 c2 c3
    refine zs_X11_tellString_2 Γ (by omega) hok hs ?_
    unfold zt_X11_tellString_2
    rw [hR.2.2.1, hR.2.1, w32_id (x := ((ws.length : Nat) : Int)) (by omega) (by omega), w32_id (x := (k : Int)) (by omega) (by omega), show (L : Int) + (k : Int) = ((L + k : Nat) : Int) by omega, c1]
    refine ⟨ht, ⟨by omega, by omega⟩, zIf_f (by omega) ⟨⟨by omega, by omega⟩, ?_⟩⟩
    have h9 : n2 u ([c.toInt.toNat] ++ sLtr r) M Q X := h
    refine n_byte Γ (by omega) hok hs (y := c.toInt.toNat) (by rw [w8_w8, Int.toNat_of_nonneg c2]) hU.1 hU.2.1 hU.2.2 (fun hl M1 o => ?_) (fun hl => h9.hd hl)
    rw [show (k : Int) + 1 = ((k + 1 : Nat) : Int) by omega]
    exact ih (k + 1) _ M1 hdr2 (by omega) (hR.fr (fun a h1 h2 => funext fun j => o.2.2 a j (by omega) (by omega))) (hU.t o hl) (h9.tl o)
theorem n_str (Γ : rt_Γ l s0 a0 G ca) (hd : 4 ≤ d) (hok : zok C) (hS : mSh S t) {n L : Nat} {ws : List Int32} (hn : n < 4200) (hL : L + ws.length ≤ 4200) (hR : rStr M t (n : Int) L ws) (hU : uS M u) (h : n2 u (sLtr ws) M Q X) : zm_X11_tellString l s0 G ca d C S t n M Q X := by
  refine z_X11_tellString Γ (by omega) hok hS.1 ?_
  unfold zt_X11_tellString
  exact n_strL Γ (by omega) hok hS hn hL ws 0 u M rfl (Nat.zero_le _) hR hU h
theorem n_end (Γ : rt_Γ l s0 a0 G ca) (hd : 5 ≤ d) (hok : zok C) (hs : zSok S) (hU : uS M u) (h : n2 u [0] M Q X) : zm_X11_tellVarint l s0 G ca (d - 1) C S 0 M (fun _ M9 => Q 0 M9) X := by
  rw [← vB_0] at h
  exact n_putV Γ (by omega) hok hs ⟨by decide, by decide⟩ hU h
theorem n_elL (Γ : rt_Γ l s0 a0 G ca) {m' : Nat} (hd : 2 * m' + 15 ≤ d) (hok : zok C) (hS : mSh S t) (hI : rDt l s0 G ca C S xs t st m') (hF : kF st) (hs : s < 6 + st.ns.length) (hk6 : (nN st.ns s).kd = 6) {w0 : rt_Wd} : ∀ (c i n u : Nat) (b : List Nat) (M : zM), kidsL c (xs.drop i) n false → (∀ j ∈ xKid xs c i, hv xs m' j) → rTx M t xs → rC M t xs st → uS M u →
    sCat (fun j => sDv xs st.ns (m' + 1) j (sKid0 st.ns s)) (xKid xs c i) = .ok b → n2 u (b ++ [0]) M Q X → zg_X11_tellDefault_255 l s0 G ca d C S w0 t s (if c = 0 then -1 else ((rWp xs i : Nat) : Int)) M Q X := by
  obtain ⟨hs1, ht, ht1⟩ := id hS
  intro c
  induction c with
  | zero =>
    intro i n u b M _ _ hT hC hU he h
    have : b = [] := by
      have e : sCat (fun j => sDv xs st.ns (m' + 1) j (sKid0 st.ns s)) (xKid xs 0 i) = .ok [] := rfl
      rw [e] at he
      injection he with he
      exact he.symm
    subst this
    refine zs_X11_tellDefault_255 Γ (by omega) hok hs1 ?_
    unfold zt_X11_tellDefault_255
    rw [if_pos rfl]
    exact zIf_t (by decide) (n_end Γ (by omega) hok hs1 hU h)
  | succ c ih =>
    intro i n u b M hk hh hT hC hU he h
    obtain ⟨k, k1, k2, k3, k4, -⟩ := r_kid0 hC hF hs (Or.inl hk6)
    have hlen := hC.len
    obtain ⟨g1, g2, g3, g4, g5, g6⟩ := kidsL_step hk
    have hrp := r_el g5
    obtain ⟨n1, n2', n3', -, -, -, n7, -⟩ := r_nd hT g1
    unfold xKid sCat at he
    cases hb1 : sDv xs st.ns (m' + 1) i (sKid0 st.ns s) with
    | error x => rw [hb1] at he; exact nomatch he
    | ok b1 =>
      rw [hb1] at he
      dsimp only at he
      obtain ⟨b2, hb2, rfl⟩ := sMap_ok he
      rw [List.append_assoc] at h
      refine zs_X11_tellDefault_255 Γ (by omega) hok hs1 ?_
      unfold zt_X11_tellDefault_255
      rw [if_neg (Nat.succ_ne_zero c), ← hrp, w32_id (by omega) (by omega), k1, k3]
      refine zIf_f (by omega) ⟨ht, ⟨by omega, by omega⟩, ⟨by omega, by omega⟩, ?_⟩
      refine hI (d - 1) i (sKid0 st.ns s) u b1 M _ X (by omega) g1 k4 (hh i List.mem_cons_self) hT hC hU hb1 ⟨fun hl M1 o => ⟨⟨by omega, by omega⟩, ?_⟩, h.hd⟩
      have hT1 := hT.u o.2.2.u ht1
      have hnx : M1 (t + 7) ((rP xs i : Nat) : Int) = (if c = 0 then -1 else ((rWp xs (i + (xx xs i).sz) : Nat) : Int)) := by
        rw [(r_nd hT1 g1).2.2.2.2.2.2.1, g4]
        by_cases c0 : c = 0
        · rw [if_pos c0, if_neg (by rw [decide_eq_false (by omega)]; exact fun h => nomatch h)]
        · rw [if_neg c0, if_pos (decide_eq_true (by omega))]
      rw [hnx]
      exact ih _ _ _ b2 M1 g6 (fun j hj => hh j (List.mem_cons_of_mem _ hj)) hT1 (hC.uf o.2.2.u ht1) (hU.t o hl) hb2 (h.tl o)
theorem n_mpL (Γ : rt_Γ l s0 a0 G ca) {m' : Nat} (hd : 2 * m' + 15 ≤ d) (hok : zok C) (hS : mSh S t) (hI : rDt l s0 G ca C S xs t st m') (hF : kF st) (hs : s < 6 + st.ns.length) (hk7 : (nN st.ns s).kd = 7) {w0 : rt_Wd} : ∀ (c i n u : Nat) (b : List Nat) (M : zM), kidsL c (xs.drop i) n true → (∀ j ∈ xKid xs c i, hv xs m' j) → rTx M t xs → rC M t xs st → uS M u →
    sCat (fun j => sMap (fun b => sKyb xs j ++ b) (sDv xs st.ns (m' + 1) j (sKid0 st.ns s))) (xKid xs c i) = .ok b → n2 u (b ++ [0]) M Q X → zg_X11_tellDefault_354 l s0 G ca d C S w0 t s (if c = 0 then -1 else ((rWp xs i : Nat) : Int)) M Q X := by
  obtain ⟨hs1, ht, ht1⟩ := id hS
  intro c
  induction c with
  | zero =>
    intro i n u b M _ _ hT hC hU he h
    have : b = [] := by
      have e : sCat (fun j => sMap (fun b => sKyb xs j ++ b) (sDv xs st.ns (m' + 1) j (sKid0 st.ns s))) (xKid xs 0 i) = .ok [] := rfl
      rw [e] at he
      injection he with he
      exact he.symm
    subst this
    refine zs_X11_tellDefault_354 Γ (by omega) hok hs1 ?_
    unfold zt_X11_tellDefault_354
    rw [if_pos rfl]
    exact zIf_t (by decide) (n_end Γ (by omega) hok hs1 hU h)
  | succ c ih =>
    intro i n u b M hk hh hT hC hU he h
    obtain ⟨g1, g2, g3, g4, g5, g6⟩ := kidsL_step hk
    have hlen := hC.len
    obtain ⟨n1, n2', n3', -, -, -, n7, -⟩ := r_nd hT g1
    obtain ⟨vs, hvs⟩ := Option.isSome_iff_exists.mp g5
    have hjk : jk (xx xs i) = 1 := by unfold jk; rw [hvs]; rfl
    have hrp : rP xs i = rWp xs i + 1 := by unfold rP; rw [hjk]
    have hkey : ∀ M1 : zM, rTx M1 t xs → M1 (t + 7) (rWp xs i : Nat) = (rP xs i : Nat) := fun M1 h1 => by
      obtain ⟨-, k10, -⟩ := (rTx_at h1 g1).1 vs hvs
      rw [k10, hrp]; omega
    obtain ⟨k9, k10, k11⟩ := (rTx_at hT g1).1 vs hvs
    unfold xKid sCat at he
    cases hb1 : sDv xs st.ns (m' + 1) i (sKid0 st.ns s) with
    | error x => rw [hb1] at he; exact nomatch he
    | ok b1 =>
      rw [hb1] at he
      rw [show sMap (fun b => sKyb xs i ++ b) (Except.ok b1) = .ok (sKyb xs i ++ b1) from rfl] at he
      dsimp only at he
      obtain ⟨b2, hb2, rfl⟩ := sMap_ok he
      have ek : sKyb xs i = vB (vs.length : Int) ++ sLtr vs := by unfold sKyb; rw [hvs]; rfl
      rw [ek, List.append_assoc, List.append_assoc, List.append_assoc] at h
      refine zs_X11_tellDefault_354 Γ (by omega) hok hs1 ?_
      unfold zt_X11_tellDefault_354
      rw [if_neg (Nat.succ_ne_zero c), w32_id (x := ((rWp xs i : Nat) : Int)) (by omega) (by omega), k9.2.2.1, w32_id (x := ((vs.length : Nat) : Int)) (by omega) (by omega)]
      refine zIf_f (by omega) ⟨ht, ⟨by omega, by omega⟩, ?_⟩
      refine n_putV Γ (by omega) hok hs1 ⟨by omega, by omega⟩ hU ⟨fun hl1 M1 o1 => ?_, h.hd⟩
      have h1 := h.tl o1
      have hT1 := hT.u o1.2.2.u ht1
      have hC1 := hC.uf o1.2.2.u ht1
      have hU1 := hU.t o1 hl1
      refine n_str Γ (by omega) hok hS (by omega) (by omega) ((rTx_at hT1 g1).1 vs hvs).1 hU1 ⟨fun hl2 M2 o2 => ?_, h1.hd⟩
      have h2 := h1.tl o2
      have hT2 := hT1.u o2.2.2.u ht1
      have hC2 := hC1.uf o2.2.2.u ht1
      have hU2 := hU1.t o2 hl2
      obtain ⟨k, k1, k2, k3, k4, -⟩ := r_kid0 hC2 hF hs (Or.inr (Or.inl hk7))
      dsimp only
      rw [k1, k3, hkey M2 hT2]
      refine ⟨⟨by omega, by omega⟩, ⟨by omega, by omega⟩, ?_⟩
      refine hI (d - 1) i (sKid0 st.ns s) _ b1 M2 _ X (by omega) g1 k4 (hh i List.mem_cons_self) hT2 hC2 hU2 hb1 ⟨fun hl M3 o => ?_, h2.hd⟩
      have hT3 := hT2.u o.2.2.u ht1
      dsimp only
      rw [hkey M3 hT3]
      refine ⟨⟨by omega, by omega⟩, ?_⟩
      have hnx : M3 (t + 7) ((rP xs i : Nat) : Int) = (if c = 0 then -1 else ((rWp xs (i + (xx xs i).sz) : Nat) : Int)) := by
        rw [(r_nd hT3 g1).2.2.2.2.2.2.1, g4]
        by_cases c0 : c = 0
        · rw [if_pos c0, if_neg (by rw [decide_eq_false (by omega)]; exact fun h => nomatch h)]
        · rw [if_neg c0, if_pos (decide_eq_true (by omega))]
      rw [hnx]
      exact ih _ _ _ b2 M3 g6 (fun j hj => hh j (List.mem_cons_of_mem _ hj)) hT3 (hC2.uf o.2.2.u ht1) (hU2.t o hl) hb2 (h2.tl o)
end NB9
