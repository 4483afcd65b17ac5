/-! ===== the reference tells: what a step leaves ===== -/
def uFr (u : Nat) (M M1 : zM) : Prop := ∀ c j : Int, ¬ (c = 84 ∧ (j = 15 ∨ j = 17 ∨ j = 18 ∨ j = 24)) → ¬ (c = 134 ∧ (u : Int) ≤ j) → M1 c j = M c j
theorem uFr.rf {u : Nat} {M : zM} : uFr u M M := fun _ _ _ _ => rfl
theorem uFr.tr {u v : Nat} {M M1 M2 : zM} (h1 : uFr u M M1) (h2 : uFr v M1 M2) (h : u ≤ v) : uFr u M M2 := fun c j n1 n2 => (h2 c j n1 (fun e => n2 ⟨e.1, by omega⟩)).trans (h1 c j n1 n2)
theorem tfr.u {u : Nat} {M M1 : zM} (h : tfr u M M1) : uFr u M M1 := fun c j n1 n2 => h c j (fun e => n1 ⟨e.1, by omega⟩) n2
theorem uFr.zu {u : Nat} {M M1 : zM} (h : uFr u M M1) {v : Int} : uFr u M (zu M1 84 24 v) := fun c j n1 n2 => by
  rw [zu_ne (fun e => n1 ⟨e.1, by omega⟩)]
  exact h c j n1 n2
/-- w is told, and the place is P -/
def uO (u P : Nat) (w : List Nat) (M M1 : zM) : Prop := M1 84 15 = ((u + w.length : Nat) : Int) ∧ M1 84 24 = (P : Int) ∧ (∀ j : Nat, j < w.length → M1 134 ((u + j : Nat) : Int) = w8 (w.getD j 0 : Nat)) ∧ uFr u M M1
def uX (u : Nat) (k : Int) (M M1 : zM) : Prop := M1 84 17 = k ∧ uFr u M M1
def n2 (u : Nat) (w : List Nat) (M : zM) (Q : Int → zM → Prop) (X : zM → Prop) : Prop := (u + w.length ≤ 4096 → ∀ M1 : zM, tO2 u w M M1 → Q 0 M1) ∧ (4096 < u + w.length → ∀ M1 : zM, tX2 u 31 M M1 → X M1)
def n3 (u P : Nat) (o : tU) (M : zM) (Q : Int → zM → Prop) (X : zM → Prop) : Prop := (u + o.1.length ≤ 4096 → o.2 = false → ∀ M1 : zM, uO u P o.1 M M1 → Q 0 M1) ∧ (4096 < u + o.1.length → ∀ M1 : zM, uX u 31 M M1 → X M1) ∧ (u + o.1.length ≤ 4096 → o.2 = true → ∀ M1 : zM, uX u 20 M M1 → X M1)
theorem n2.hd {u : Nat} {a b : List Nat} {M : zM} {Q : Int → zM → Prop} {X : zM → Prop} (h : n2 u (a ++ b) M Q X) : 4096 < u + a.length → ∀ M1 : zM, tX2 u 31 M M1 → X M1 := fun hl M1 x => h.2 (by rw [List.length_append]; omega) M1 x
theorem n2.tl {u : Nat} {a b : List Nat} {M M1 : zM} {Q : Int → zM → Prop} {X : zM → Prop} (h : n2 u (a ++ b) M Q X) (o : tO2 u a M M1) : n2 (u + a.length) b M1 Q X := ⟨fun hl M2 o2 => h.1 (by rw [List.length_append]; omega) M2 (o.app o2), fun hl M2 x => h.2 (by rw [List.length_append]; omega) M2 (o.x x)⟩
theorem n2.nil {u : Nat} {M : zM} {Q : Int → zM → Prop} {X : zM → Prop} (h : n2 u [] M Q X) (hu : M 84 15 = (u : Int)) (hul : u ≤ 4096) : Q 0 M := h.1 hul M (tO2.nil hu)
theorem n3.d {u P : Nat} {b : List Nat} {M : zM} {Q : Int → zM → Prop} {X : zM → Prop} (h : n3 u P (b, false) M Q X) (h24 : M 84 24 = (P : Int)) : n2 u b M Q X := ⟨fun hl M1 o => h.1 hl rfl M1 ⟨o.1, by rw [o.2.2 _ _ (by omega) (by omega)]; exact h24, o.2.1, o.2.2.u⟩, fun hl M1 x => h.2.1 hl M1 ⟨x.1, x.2.u⟩⟩
/-- a step, and what comes behind it -/
theorem n3.st {u P P1 : Nat} {o o2 : tU} {M : zM} {Q Q1 : Int → zM → Prop} {X : zM → Prop} (h : n3 u P (tSq o o2) M Q X) (k : o.2 = false → u + o.1.length ≤ 4096 → ∀ M1 : zM, uO u P1 o.1 M M1 → n3 (u + o.1.length) P o2 M1 Q X → Q1 0 M1) : n3 u P1 o M Q1 X := by
  refine ⟨fun hl h0 M1 ho => k h0 hl M1 ho ?_, fun hl M1 x => h.2.1 (by have := tSq_len (a := o) (b := o2); omega) M1 x, fun hl h1 M1 x => ?_⟩
  · have e : tSq o o2 = (o.1 ++ o2.1, o2.2) := if_neg (by rw [h0]; decide)
    rw [e] at h
    obtain ⟨a1, a2, a3, a4⟩ := ho
    unfold n3 at h
    dsimp only at h
    rw [List.length_append] at h
    refine ⟨fun hl2 h2 M2 ⟨b1, b2, b3, b4⟩ => h.1 (by omega) h2 M2 ⟨by rw [b1, List.length_append]; omega, b2, fun j hj => ?_, a4.tr b4 (Nat.le_add_right _ _)⟩, fun hl2 M2 x => h.2.1 (by omega) M2 ⟨x.1, a4.tr x.2 (Nat.le_add_right _ _)⟩, fun hl2 h2 M2 x => h.2.2 (by omega) h2 M2 ⟨x.1, a4.tr x.2 (Nat.le_add_right _ _)⟩⟩
    rw [List.getD_eq_getElem?_getD]
    by_cases c1 : j < o.1.length
    · rw [List.getElem?_append_left c1, ← List.getD_eq_getElem?_getD, ← a3 j c1]
      exact b4 _ _ (by omega) (by omega)
    · rw [List.length_append] at hj
      rw [List.getElem?_append_right (by omega), ← List.getD_eq_getElem?_getD, ← b3 (j - o.1.length) (by omega)]
      rw [show u + j = u + o.1.length + (j - o.1.length) by omega]
  · have e : tSq o o2 = o := if_pos h1
    rw [e] at h
    exact h.2.2 hl h1 M1 x
/-- from behind a change of the place -/
theorem n3.mv {u P : Nat} {o : tU} {M : zM} {Q : Int → zM → Prop} {X : zM → Prop} {M0 : zM} (h : n3 u P o M Q X) (f : uFr u M M0) : n3 u P o M0 Q X := ⟨fun hl h0 M1 ho => h.1 hl h0 M1 ⟨ho.1, ho.2.1, ho.2.2.1, f.tr ho.2.2.2 (Nat.le_refl _)⟩, fun hl M1 x => h.2.1 hl M1 ⟨x.1, f.tr x.2 (Nat.le_refl _)⟩, fun hl h0 M1 x => h.2.2 hl h0 M1 ⟨x.1, f.tr x.2 (Nat.le_refl _)⟩⟩
/-- nothing told -/
theorem n3.nil {u P : Nat} {M : zM} {Q : Int → zM → Prop} {X : zM → Prop} (h : n3 u P ([], false) M Q X) (hu : M 84 15 = (u : Int)) (hul : u ≤ 4096) (h24 : M 84 24 = (P : Int)) : Q 0 M := h.1 hul rfl M ⟨hu, h24, fun j hj => absurd hj (Nat.not_lt_zero _), uFr.rf⟩
def uS (M : zM) (u : Nat) : Prop := M 84 15 = (u : Int) ∧ u ≤ 4096 ∧ M 84 25 = 4096
theorem uS.o {u P : Nat} {w : List Nat} {M M1 : zM} (h : uS M u) (o : uO u P w M M1) (hl : u + w.length ≤ 4096) : uS M1 (u + w.length) := ⟨o.1, hl, by rw [o.2.2.2 _ _ (by omega) (by omega)]; exact h.2.2⟩
theorem uS.t {u : Nat} {w : List Nat} {M M1 : zM} (h : uS M u) (o : tO2 u w M M1) (hl : u + w.length ≤ 4096) : uS M1 (u + w.length) := ⟨o.1, hl, by rw [o.2.2 _ _ (by omega) (by omega)]; exact h.2.2⟩
theorem uS.mv {u : Nat} {M : zM} (h : uS M u) {v : Int} : uS (zu M 84 24 v) u := ⟨by rw [zu_k (by decide)]; exact h.1, h.2.1, by rw [zu_k (by decide)]; exact h.2.2⟩
/-- a datum of one of the six -/
def ySix (x : Nat) (w : List Nat) : Prop := (x = 0 → w = []) ∧ (x = 1 → ∃ b : Nat, w = [b]) ∧ (x = 2 ∨ x = 3 → ∃ n : Int, w = vB n ∧ -9223372036854775808 ≤ n ∧ n < 9223372036854775808) ∧ (x = 4 ∨ x = 5 → yNs w)
theorem ySix.of {f : Nat → List Nat → Prop} {ns : List SN} {s : Nat} {w : List Nat} (h : yNb f ns s w) : ySix (nN ns s).kd w := by
  unfold yNb at h
  refine ⟨fun k => ?_, fun k => ?_, fun k => ?_, fun k => ?_⟩
  · rw [if_pos k] at h; exact h
  · rw [if_neg (by omega), if_pos k] at h
    obtain ⟨x, e, -⟩ := h
    exact ⟨x, e⟩
  · rw [if_neg (by omega), if_neg (by omega), if_pos k] at h; exact h
  · rw [if_neg (by omega), if_neg (by omega), if_neg (by omega), if_pos k] at h; exact h
section NA9
variable {l : Launch} {s0 : State} {a0 : Array Value} {G : va_G} {ca : Nat → ClassId} {d : Nat} {C : Nat × Nat} {S : zS} {M : zM} {Q : Int → zM → Prop} {X : zM → Prop} {u P : Nat}
theorem n_putV (Γ : rt_Γ l s0 a0 G ca) (hd : 4 ≤ d) (hok : zok C) (hs : zSok S) {n : Int} (hn : -9223372036854775808 ≤ n ∧ n < 9223372036854775808) (hU : uS M u) (h : n2 u (vB n) M Q X) : zm_X11_tellVarint l s0 G ca d C S n M Q X :=
  n_put Γ hd hok hs hn hU.1 hU.2.1 hU.2.2 h.1 h.2
theorem n_unr (Γ : rt_Γ l s0 a0 G ca) (hd : 2 ≤ d) (hok : zok C) (hs : zSok S) {o : tU} (hul : u ≤ 4096) (ho : o = ([], true)) (h : n3 u P o M Q X) {Q1 : Int → zM → Prop} : zm_X11_unresolved l s0 G ca d C S M Q1 X := by
  subst ho
  refine z_X11_unresolved Γ (by omega) hok hs ?_
  unfold zt_X11_unresolved
  refine m_fail Γ (Nat.zero_le _) hok hs (h.2.2 hul rfl _ ⟨by rw [zu_k (by decide), zu_s], fun a j n1 n2 => ?_⟩)
  rw [zu_ne (fun e => n1 ⟨e.1, by omega⟩), zu_ne (fun e => n1 ⟨e.1, by omega⟩)]
/-- bytes of the disk are told -/
theorem n_copyL (Γ : rt_Γ l s0 a0 G ca) (hd : 3 ≤ d) (hok : zok C) (hs : zSok S) {n : Nat} (hn : n ≤ 4200) {w0 : rt_Wd} : ∀ (bs : List Nat) (k u P : Nat) (M : zM), k + bs.length = n → rdW M P bs → P + bs.length ≤ 4200 → uS M u → M 84 24 = (P : Int) → n3 u (P + bs.length) (bs, false) M Q X → zg_X11_copyBytes_3 l s0 G ca d C S w0 n 1 k M Q X := by
  intro bs
  induction bs with
  | nil =>
    intro k u P M hk hr hP hU h24 h
    refine zs_X11_copyBytes_3 Γ (by omega) hok hs ?_
    unfold zt_X11_copyBytes_3
    rw [List.length_nil] at hk
    rw [w64_id (by omega) (by omega), w64_id (by omega) (by omega)]
    exact zIf_t (by omega) (h.nil hU.1 hU.2.1 h24)
  | cons b bs ih =>
    intro k u P M hk hr hP hU h24 h
    rw [List.length_cons] at hk hP
    obtain ⟨r1, r2⟩ := hr.cons
    refine zs_X11_copyBytes_3 Γ (by omega) hok hs ?_
    unfold zt_X11_copyBytes_3
    rw [w64_id (by omega) (by omega), w64_id (by omega) (by omega), h24, r1]
    refine zIf_f (by omega) (zIf_f (by decide) ⟨⟨by omega, by omega⟩, ?_⟩)
    have h9 : n3 u (P + (bs.length + 1)) (tSq ([b], false) (bs, false)) M Q X := h
    have h2 := (n3.st (P1 := P) (Q1 := fun _ M24 => zt_X11_copyBytes_27 l s0 G ca d C S w0 n 1 k M24 Q X) h9 (fun _ hl M1 ho hn3 => ?_)).d h24
    · exact n_byte Γ (by omega) hok hs (y := b) (w8_w8 _) hU.1 hU.2.1 hU.2.2 h2.1 h2.2
    · unfold zt_X11_copyBytes_27
      rw [ho.2.1, show (P : Int) + 1 = ((P + 1 : Nat) : Int) by omega, show (k : Int) + 1 = ((k + 1 : Nat) : Int) by omega]
      have hr9 : rdW M1 (P + 1) bs := fun j hj => by rw [ho.2.2.2 _ _ (by omega) (by omega)]; exact r2 j hj
      refine ih (k + 1) (u + 1) (P + 1) _ (by omega) (hr9.u (by decide)) (by omega) (hU.o ho hl).mv (zu_s _ _ _ _) ?_
      rw [show P + 1 + bs.length = P + (bs.length + 1) by omega]
      exact hn3.mv uFr.rf.zu
theorem n_copy (Γ : rt_Γ l s0 a0 G ca) (hd : 4 ≤ d) (hok : zok C) (hs : zSok S) {bs : List Nat} (hr : rdW M P bs) (hP : P + bs.length ≤ 4200) (hU : uS M u) (h24 : M 84 24 = (P : Int)) (h : n3 u (P + bs.length) (bs, false) M Q X) : zm_X11_copyBytes l s0 G ca d C S (bs.length : Nat) 1 M Q X := by
  refine z_X11_copyBytes Γ (by omega) hok hs ?_
  unfold zt_X11_copyBytes
  exact n_copyL Γ (by omega) hok hs (by omega) bs 0 u P M (Nat.zero_add _) hr hP hU h24 h
/-- a datum of one of the six -/
theorem n_six (Γ : rt_Γ l s0 a0 G ca) (hd : 6 ≤ d) (hok : zok C) (hs : zSok S) {x : Nat} (hx : x < 6) {bs : List Nat} (hb : ySix x bs) (hr : rdW M P bs) (hP : P + bs.length ≤ 4200) (hU : uS M u) (h24 : M 84 24 = (P : Int)) (h : n3 u (P + bs.length) (bs, false) M Q X) : zm_X11_tellSix l s0 G ca d C S x M Q X := by
  obtain ⟨b0, b1, b2, b4⟩ := hb
  refine z_X11_tellSix Γ (by omega) hok hs ?_
  unfold zt_X11_tellSix
  rw [w32_id (x := (x : Int)) (by omega) (by omega)]
  have num : (x = 2 ∨ x = 3) → zm_X11_readVarint l s0 G ca (d - 1) C S M (fun r46 M46 => zm_X11_tellVarint l s0 G ca (d - 1) C S r46 M46 (fun r49 M49 => Q 0 M49) X) X := fun k => by
    obtain ⟨n, rfl, n1, n2⟩ := b2 k
    refine s_var Γ hok hs ⟨n1, n2⟩ h24 hr hP ?_
    exact n_putV Γ (by omega) hok hs ⟨n1, n2⟩ hU.mv ((h.mv uFr.rf.zu).d (zu_s _ _ _ _))
  refine ⟨fun k => ?_, fun k => ⟨fun k => ?_, fun k => ⟨fun k => num (by omega), fun k => ⟨fun k => num (by omega), fun k => ?_⟩⟩⟩⟩
  · have := b0 (by omega)
    subst this
    exact h.nil hU.1 hU.2.1 h24
  · obtain ⟨b, rfl⟩ := b1 (by omega)
    exact n_copy Γ (by omega) hok hs hr hP hU h24 h
  · obtain ⟨sg, rfl, hsl, hsb⟩ := b4 (by omega)
    rw [List.length_append] at hP h
    refine s_var Γ hok hs ⟨by omega, by omega⟩ h24 hr.l (by omega) ?_
    have h9 : n3 u (P + ((vB (sg.length : Int)).length + sg.length)) (tSq (vB (sg.length : Int), false) (sg, false)) (zu M 84 24 ((P + (vB (sg.length : Int)).length : Nat) : Int)) Q X := h.mv uFr.rf.zu
    refine n_putV Γ (by omega) hok hs ⟨by omega, by omega⟩ hU.mv ((n3.st (P1 := P + (vB (sg.length : Int)).length) h9 (fun _ hl M1 ho hn3 => ?_)).d (zu_s _ _ _ _))
    have hr9 : rdW M1 (P + (vB (sg.length : Int)).length) sg := fun j hj => by rw [ho.2.2.2 _ _ (by omega) (by omega), zu_a (by decide)]; exact hr.r j hj
    refine n_copy Γ (by omega) hok hs hr9 (by omega) (hU.mv.o ho hl) ho.2.1 ?_
    rw [show P + (vB (sg.length : Int)).length + sg.length = P + ((vB (sg.length : Int)).length + sg.length) by omega]
    exact hn3
end NA9
