/-! ===== the class's words ===== -/
/-- at x of a row stands the word ws -/
def wd (f : Int → Int) (lu : Nat) (x : Int) (ws : List Int32) : Prop := ∃ L : Nat, x = L ∧ L + 1 + ws.length ≤ lu ∧ f L = ws.length ∧ ∀ i : Nat, i < ws.length → f ((L + 1 + i : Nat) : Int) = (ws.getD i 0).toInt
theorem cW.wd {M : zM} {lu : Nat} {x : Int} {ws : List Int32} (h : cW M lu x ws) : wd (M 23) lu x ws := h
theorem wd.mono {f f' : Int → Int} {lu lu' : Nat} {x : Int} {ws : List Int32} (h : wd f lu x ws) (hl : lu ≤ lu') (e : ∀ j : Int, 0 ≤ j → j < lu → f' j = f j) : wd f' lu' x ws := by
  obtain ⟨L, h1, h2, h3, h4⟩ := h
  exact ⟨L, h1, by omega, by rw [e _ (by omega) (by omega)]; exact h3, fun i hi => by rw [e _ (by omega) (by omega)]; exact h4 i hi⟩
def iw (bs : List Int) : List Int32 := bs.map Int32.ofInt
theorem ws_eq {ws vs : List Int32} : ws = vs ↔ ws.length = vs.length ∧ ∀ i : Nat, i < ws.length → ws.getD i 0 = vs.getD i 0 := by
  constructor
  · rintro rfl
    exact ⟨rfl, fun _ _ => rfl⟩
  · rintro ⟨h1, h2⟩
    refine List.ext_getElem h1 (fun i hi hj => ?_)
    have := h2 i hi
    rw [List.getD_eq_getElem?_getD, List.getD_eq_getElem?_getD, List.getElem?_eq_getElem hi, List.getElem?_eq_getElem hj] at this
    exact this
theorem iw_get {wb : List Int} {i : Nat} (hi : i < wb.length) : (iw wb).getD i 0 = Int32.ofInt (wb.getD i 0) := by
  unfold iw
  rw [List.getD_eq_getElem?_getD, List.getD_eq_getElem?_getD, List.getElem?_map, List.getElem?_eq_getElem hi]
  rfl
theorem iw_len {wb : List Int} : (iw wb).length = wb.length := List.length_map _
theorem toI_inj {a b : Int32} (h : a.toInt = b.toInt) : a = b := Int32.toInt_inj.mp h
theorem toI_b (a : Int32) : -2147483648 ≤ a.toInt ∧ a.toInt < 2147483648 := ⟨Int32.le_toInt a, Int32.toInt_lt a⟩
theorem w32_toI (a : Int32) : w32 a.toInt = a.toInt := w32_id (toI_b a).1 (toI_b a).2
section CWs
variable {l : Launch} {s0 : State} {a0 : Array Value} {G : va_G} {ca : Nat → ClassId} {d : Nat} {C : Nat × Nat} {S : zS} {M : zM} {Q : Int → zM → Prop} {X : zM → Prop} {c ca9 : Int} {n : Nat}
theorem c_sayL (Γ : rt_Γ l s0 a0 G ca) (hd : 4 ≤ d) (hok : zok C) (hc : zCe S c ca9 n) (hn : n ≤ 8192) {w : Nat} {wb : List Int} (hw : zstr s0 w wb) {w0 : rt_Wd} {L : Nat} {ws : List Int32} (hlen : ws.length = wb.length) (hL : L + 1 + ws.length ≤ n) (hf : ∀ i : Nat, i < ws.length → M ca9 ((L + 1 + i : Nat) : Int) = (ws.getD i 0).toInt) (hQ : Q (if ws = iw wb then 1 else 0) M) : ∀ k j : Nat, j + k = wb.length → (∀ i : Nat, i < j → ws.getD i 0 = (iw wb).getD i 0) → zg_X0_says_56 l s0 G ca d C S w0 c ca9 n w wb (L : Int) (wb.length : Int) (j : Int) M Q X := by
  intro k
  induction k with
  | zero =>
    intro j hj hp
    refine zs_X0_says_56 Γ hd hok hc hw ?_
    unfold zt_X0_says_56
    refine ⟨fun _ => ?_, fun c9 => absurd (by rw [show j = wb.length by omega]; exact Int.le_refl _) c9⟩
    rw [if_pos (ws_eq.mpr ⟨by rw [hlen, iw_len], fun i hi => hp i (by omega)⟩)] at hQ
    exact hQ
  | succ k ih =>
    intro j hj hp
    refine zs_X0_says_56 Γ hd hok hc hw ?_
    unfold zt_X0_says_56
    have hwb := hw.2.1 (wb.getD j 0) (by
      rw [List.getD_eq_getElem?_getD, List.getElem?_eq_getElem (show j < wb.length by omega)]
      exact List.getElem_mem _)
    have e1 : (L : Int) + 1 + (j : Int) = ((L + 1 + j : Nat) : Int) := by omega
    rw [e1, w32_id (by omega) (by omega), w32_id (by omega) (by omega), w32_id (by omega) (by omega), hf j (by omega), w32_toI, Int.toNat_natCast, w32_id (by omega) (by omega)]
    refine ⟨fun c9 => by omega, fun _ => ⟨⟨by omega, by omega⟩, ⟨by omega, by omega⟩, fun ce => ?_, fun cn => ?_⟩⟩
    · refine ih (j + 1) (by omega) (fun i hi => ?_)
      by_cases hij : i = j
      · subst hij
        rw [iw_get (by omega)]
        refine toI_inj ?_
        rw [ce, z_toI, w32_id (by omega) (by omega)]
      · exact hp i (by omega)
    · rw [if_neg ?_] at hQ
      · exact hQ
      · intro e
        have := (ws_eq.mp e).2 j (by omega)
        rw [iw_get (by omega)] at this
        rw [this, z_toI, w32_id (by omega) (by omega)] at cn
        exact cn rfl
theorem c_says (Γ : rt_Γ l s0 a0 G ca) (hd : 4 ≤ d) (hok : zok C) (hc : zCe S c ca9 n) (hn : n ≤ 8192) {w : Nat} {wb : List Int} (hw : zstr s0 w wb) {lu : Nat} {i : Int} {ws : List Int32} (hW : wd (M ca9) lu i ws) (hl : lu ≤ n) (hQ : Q (if ws = iw wb then 1 else 0) M) : zm_X0_says l s0 G ca d C S c i w M Q X := by
  obtain ⟨L, rfl, h2, h3, h4⟩ := hW
  refine z_X0_says Γ hd hok hc hw ?_
  unfold zt_X0_says zt_X0_says_12
  have hb := hw.2.2
  rw [w32_id (by omega) (by omega), w32_id (by omega) (by omega), w32_id (x := (wb.length : Int)) (by omega) (by omega), w32_id (x := (n : Int) - L) (by omega) (by omega), h3, w32_id (x := (ws.length : Int)) (by omega) (by omega)]
  refine ⟨fun c9 => by omega, fun _ => ⟨fun c9 => by omega, fun _ => ⟨⟨by omega, by omega⟩, fun ce => ⟨fun _ => ?_, fun c9 => by omega⟩, fun cn => ?_⟩⟩⟩
  · exact c_sayL Γ hd hok hc hn hw (by omega) (by omega) h4 hQ wb.length 0 (by omega) (fun i hi => by omega)
  · rw [if_neg (fun e => cn (by rw [(ws_eq.mp e).1, iw_len]))] at hQ
    exact hQ
theorem c_iswL (Γ : rt_Γ l s0 a0 G ca) (hok : zok C) (hc : zCe S c ca9 n) (hn : n ≤ 8192) {c2 ad : Int} {nd : Nat} (hc2 : zCe S c2 ad nd) (hn2 : nd ≤ 8192) {w0 : rt_Wd} {L K : Nat} {ws vs : List Int32} (hlen : ws.length = vs.length) (hL : L + 1 + ws.length ≤ n) (hK : K + 1 + vs.length ≤ nd) (hf : ∀ i : Nat, i < ws.length → M ca9 ((L + 1 + i : Nat) : Int) = (ws.getD i 0).toInt) (hg : ∀ i : Nat, i < vs.length → M ad ((K + 1 + i : Nat) : Int) = (vs.getD i 0).toInt) (hQ : Q (if ws = vs then 1 else 0) M) : ∀ k j : Nat, j + k = ws.length → (∀ i : Nat, i < j → ws.getD i 0 = vs.getD i 0) → zg_X0_isWord_80 l s0 G ca d C S w0 c ca9 n (L : Int) c2 (K : Int) (ws.length : Int) ((j : Int) + 1) M Q X := by
  intro k
  induction k with
  | zero =>
    intro j hj hp
    refine zs_X0_isWord_80 Γ hok hc ?_
    unfold zt_X0_isWord_80
    rw [w32_id (by omega) (by omega), w32_id (by omega) (by omega)]
    refine ⟨fun _ => ?_, fun c9 => by omega⟩
    rw [if_pos (ws_eq.mpr ⟨hlen, fun i hi => hp i (by omega)⟩)] at hQ
    exact hQ
  | succ k ih =>
    intro j hj hp
    refine zs_X0_isWord_80 Γ hok hc ?_
    unfold zt_X0_isWord_80
    have e1 : (L : Int) + ((j : Int) + 1) = ((L + 1 + j : Nat) : Int) := by omega
    have e2 : (K : Int) + ((j : Int) + 1) = ((K + 1 + j : Nat) : Int) := by omega
    rw [e1, e2, w32_id (x := (ws.length : Int)) (by omega) (by omega), w32_id (x := (j : Int) + 1) (by omega) (by omega), w32_id (x := ((L + 1 + j : Nat) : Int)) (by omega) (by omega), w32_id (x := ((K + 1 + j : Nat) : Int)) (by omega) (by omega)]
    refine ⟨fun c9 => by omega, fun _ => ⟨⟨by omega, by omega⟩, ad, nd, hc2, ⟨by omega, by omega⟩, ?_⟩⟩
    rw [hf j (by omega), hg j (by omega), w32_toI, w32_toI]
    refine ⟨fun ce => ?_, fun cn => ?_⟩
    · rw [← show ((j + 1 : Nat) : Int) = (j : Int) + 1 from by omega]
      refine ih (j + 1) (by omega) (fun i hi => ?_)
      by_cases hij : i = j
      · rw [hij]; exact toI_inj ce
      · exact hp i (by omega)
    · rw [if_neg (fun e => cn (by rw [(ws_eq.mp e).2 j (by omega)]))] at hQ
      exact hQ
theorem c_isw (Γ : rt_Γ l s0 a0 G ca) (hok : zok C) (hc : zCe S c ca9 n) (hn : n ≤ 8192) {c2 ad : Int} {nd : Nat} (hc2 : zCe S c2 ad nd) (hn2 : nd ≤ 8192) {lu lv : Nat} {i k : Int} {ws vs : List Int32} (hW : wd (M ca9) lu i ws) (hl : lu ≤ n) (hV : wd (M ad) lv k vs) (hl2 : lv ≤ nd) (hQ : Q (if ws = vs then 1 else 0) M) : zm_X0_isWord l s0 G ca d C S c i c2 k M Q X := by
  obtain ⟨L, rfl, h2, h3, h4⟩ := hW
  obtain ⟨K, rfl, g2, g3, g4⟩ := hV
  refine z_X0_isWord Γ hok hc ?_
  unfold zt_X0_isWord
  have h0 := hc2.1
  rw [w32_id (x := (L : Int)) (by omega) (by omega), w32_id (x := (n : Int)) (by omega) (by omega), w32_id (x := (K : Int)) (by omega) (by omega)]
  refine ⟨fun c9 => by omega, fun _ => ⟨fun c9 => by omega, fun _ => ⟨fun c9 => by omega, fun _ => ⟨fun c9 => by omega, fun _ => ⟨ad, nd, hc2, ?_⟩⟩⟩⟩⟩
  rw [w32_id (x := (nd : Int)) (by omega) (by omega), h3, g3, w32_id (x := (ws.length : Int)) (by omega) (by omega), w32_id (x := (vs.length : Int)) (by omega) (by omega), w32_id (x := (n : Int) - L) (by omega) (by omega), w32_id (x := (nd : Int) - K) (by omega) (by omega)]
  refine ⟨fun _ => ⟨⟨by omega, by omega⟩, ⟨by omega, by omega⟩, fun ce => ⟨fun c9 => by omega, fun _ => ⟨fun _ => ?_, fun c9 => by omega⟩⟩, fun cn => ?_⟩, fun c9 => by omega⟩
  · exact c_iswL Γ hok hc hn hc2 hn2 (by omega) (by omega) (by omega) h4 g4 hQ ws.length 0 (by omega) (fun i hi => by omega)
  · rw [if_neg (fun e => cn (by rw [e]))] at hQ
    exact hQ
/-- a place that is none -/
theorem c_isw0 (Γ : rt_Γ l s0 a0 G ca) (hok : zok C) (hc : zCe S c ca9 n) {c2 : Int} {k : Int} (h0 : 0 ≤ c2) (hQ : Q 0 M) : zm_X0_isWord l s0 G ca d C S c (-1) c2 k M Q X := by
  refine z_X0_isWord Γ hok hc ?_
  unfold zt_X0_isWord
  exact ⟨fun c9 => by omega, fun _ => ⟨fun _ => hQ, fun c9 => absurd (by decide) c9⟩⟩
end CWs
