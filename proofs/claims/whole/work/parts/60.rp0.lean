/-! ===== the reference's Text reads a text: small steps ===== -/
theorem zu_id {M : zM} {a k v : Int} (h : M a k = v) : zu M a k v = M := by
  funext b j
  unfold zu
  by_cases c : b = a ∧ j = k
  · rw [if_pos c, c.1, c.2, h]
  · rw [if_neg c]
theorem zu_zu (M : zM) (a k v v' : Int) : zu (zu M a k v) a k v' = zu M a k v' := by
  funext b j
  unfold zu
  by_cases c : b = a ∧ j = k
  · rw [if_pos c, if_pos c]
  · rw [if_neg c, if_neg c, if_neg c]
/-- the byte at p, or -1 where the text has ended -/
def rb (bt : Int → Int) (N p : Nat) : Int := if p < N then bt p else -1
def rg (bt : Int → Int) (N : Nat) : Nat → Int32 := fun p => Int32.ofInt (rb bt N p)
/-- bytes of a text of N bytes, signed -/
def rOk (bt : Int → Int) (N : Nat) : Prop := N < 2000 ∧ ∀ j : Nat, j < N → -128 ≤ bt j ∧ bt j < 128
theorem rb_b {bt : Int → Int} {N : Nat} (h : rOk bt N) (p : Nat) : -128 ≤ rb bt N p ∧ rb bt N p < 128 := by
  unfold rb
  split
  · rename_i c
    exact h.2 p c
  · omega
theorem rb_w {bt : Int → Int} {N : Nat} (h : rOk bt N) (p : Nat) : w32 (rb bt N p) = rb bt N p := by
  have := rb_b h p
  exact w32_id (by omega) (by omega)
theorem g_eq {bt : Int → Int} {N p : Nat} (h : rOk bt N) {c : Int} {k : Int32} (hk : Int32.ofInt c = k) (hc : w32 c = c) : rg bt N p = k ↔ rb bt N p = c := by
  subst hk
  unfold rg
  rw [z_eq, rb_w h, hc]
theorem g_lt {bt : Int → Int} {N p : Nat} (h : rOk bt N) {c : Int} {k : Int32} (hk : Int32.ofInt c = k) (hc : w32 c = c) : rg bt N p < k ↔ rb bt N p < c := by
  subst hk
  unfold rg
  rw [z_lt, rb_w h, hc]
theorem g_gt {bt : Int → Int} {N p : Nat} (h : rOk bt N) {c : Int} {k : Int32} (hk : Int32.ofInt c = k) (hc : w32 c = c) : k < rg bt N p ↔ c < rb bt N p := by
  subst hk
  unfold rg
  rw [z_lt, rb_w h, hc]
theorem g_le {bt : Int → Int} {N p : Nat} (h : rOk bt N) {c : Int} {k : Int32} (hk : Int32.ofInt c = k) (hc : w32 c = c) : rg bt N p ≤ k ↔ rb bt N p ≤ c := by
  subst hk
  unfold rg
  rw [z_le, rb_w h, hc]
theorem rg_T {bt : Int → Int} {N : Nat} (h : rOk bt N) : jT (rg bt N) N := ⟨h.1, fun p hp => by unfold rg rb; rw [if_neg (by omega)]; rfl⟩
/-- where the reading of a text stands: at p, so deep, W nodes, L letters -/
def RS (M : zM) (t : Int) (bt : Int → Int) (N p dp W L : Nat) : Prop := M t 1 = N ∧ M t 2 = p ∧ M t 3 = dp ∧ M t 7 = W ∧ M t 15 = L ∧ ∀ j : Int, M (t + 1) j = bt j
theorem RS.pos {M : zM} {t : Int} {bt : Int → Int} {N p dp W L : Nat} (h : RS M t bt N p dp W L) (p' : Nat) : RS (zu M t 2 p') t bt N p' dp W L := by
  obtain ⟨h1, h2, h3, h4, h5, h6⟩ := h
  exact ⟨by rw [zu_k (by decide), h1], zu_s _ _ _ _, by rw [zu_k (by decide), h3], by rw [zu_k (by decide), h4], by rw [zu_k (by decide), h5], fun j => by rw [zu_a (by omega), h6]⟩
section RP
variable {l : Launch} {s0 : State} {a0 : Array Value} {G : va_G} {ca : Nat → ClassId} {d : Nat} {C : Nat × Nat} {S : zS} {t : Int} {M : zM} {Q : Int → zM → Prop} {X : zM → Prop} {bt : Int → Int} {N p dp W L : Nat}
theorem q_look (Γ : rt_Γ l s0 a0 G ca) (hok : zok C) (ht : zTx S t) (hb : rOk bt N) (hR : RS M t bt N p dp W L) (hp : p ≤ N) (h : Q (rb bt N p) M) : zm_X10_look l s0 G ca d C S t M Q X := by
  obtain ⟨h1, h2, h3, h4, h5, h6⟩ := hR
  have hN := hb.1
  refine z_X10_look Γ hok ht ?_
  unfold zt_X10_look
  rw [h1, h2, w32_id (x := (N : Int)) (by omega) (by omega), w32_id (x := (p : Int)) (by omega) (by omega), h6]
  unfold rb at h
  refine ⟨fun c => ?_, fun c => ⟨⟨by omega, by omega⟩, ?_⟩⟩
  · rw [if_neg (by omega)] at h; exact h
  · rw [if_pos (by omega)] at h; exact h
theorem q_fail (Γ : rt_Γ l s0 a0 G ca) (hok : zok C) (ht : zTx S t) {c w : Int} (h : X (zu (zu M t 4 c) t 5 w)) : zm_X10_fail l s0 G ca d C S t c w M Q X := z_X10_fail Γ hok ht h
/-- need: good is 0 or 1 -/
theorem q_need (Γ : rt_Γ l s0 a0 G ca) (hd : 1 ≤ d) (hok : zok C) (ht : zTx S t) {g c w : Int} (h0 : w32 g = 0 → X (zu (zu M t 4 c) t 5 w)) (h1 : ¬ w32 g = 0 → Q 0 M) : zm_X10_need l s0 G ca d C S t g c w M Q X := by
  refine z_X10_need Γ hd hok ht ?_
  unfold zt_X10_need
  exact ⟨fun e => q_fail Γ hok ht (h0 e), h1⟩
theorem w32_0 : w32 0 = 0 := by decide
theorem w32_1 : ¬ w32 1 = 0 := by decide
theorem q_need1 (Γ : rt_Γ l s0 a0 G ca) (hd : 1 ≤ d) (hok : zok C) (ht : zTx S t) {c w : Int} (h : Q 0 M) : zm_X10_need l s0 G ca d C S t 1 c w M Q X := q_need Γ hd hok ht (fun e => absurd e w32_1) (fun _ => h)
theorem q_need0 (Γ : rt_Γ l s0 a0 G ca) (hd : 1 ≤ d) (hok : zok C) (ht : zTx S t) {c w : Int} (h : X (zu (zu M t 4 c) t 5 w)) : zm_X10_need l s0 G ca d C S t 0 c w M Q X := q_need Γ hd hok ht (fun _ => h) (fun e => absurd w32_0 e)
theorem q_take (Γ : rt_Γ l s0 a0 G ca) (hd : 2 ≤ d) (hok : zok C) (ht : zTx S t) (hb : rOk bt N) (hR : RS M t bt N p dp W L) (hp : p ≤ N) {c : Int} (hc : w32 c = c) (h1 : rb bt N p = c → Q 0 (zu M t 2 ((p + 1 : Nat) : Int))) (h0 : ¬ rb bt N p = c → X (zu (zu M t 4 1) t 5 p)) : zm_X10_take l s0 G ca d C S t c M Q X := by
  refine z_X10_take Γ (by omega) hok ht ?_
  unfold zt_X10_take
  refine q_look Γ hok ht hb hR hp ?_
  rw [rb_w hb, hc]
  unfold zt_X10_take_14
  have h2 := hR.2.1
  refine ⟨fun e => q_need1 Γ (by omega) hok ht ?_, fun e => q_need0 Γ (by omega) hok ht ?_⟩
  · have := h1 e
    rw [h2]
    exact this
  · rw [h2]
    exact h0 e
theorem jSk_step {g : Nat → Int32} {k p : Nat} : jSk g (k + 1) p = if g p = 9 ∨ g p = 10 ∨ g p = 13 ∨ g p = 32 then jSk g k (p + 1) else p := rfl
theorem q_blanksL (Γ : rt_Γ l s0 a0 G ca) (hd : 1 ≤ d) (hok : zok C) (ht : zTx S t) (hb : rOk bt N) {w0 : rt_Wd} : ∀ (k p : Nat) (M : zM), N < p + k → p ≤ N → RS M t bt N p dp W L → Q 0 (zu M t 2 (jSk (rg bt N) k p)) → zg_X10_blanks_0 l s0 G ca d C S w0 t M Q X := by
  intro k
  induction k with
  | zero => intro p M h1 h2; omega
  | succ k ih =>
    intro p M h1 hp hR hQ
    refine zs_X10_blanks_0 Γ hd hok ht ?_
    unfold zt_X10_blanks_0
    have yes : (rg bt N p = 9 ∨ rg bt N p = 10 ∨ rg bt N p = 13 ∨ rg bt N p = 32) → zt_X10_blanks_36 l s0 G ca d C S w0 t M Q X := fun e => by
      unfold zt_X10_blanks_36
      have hlt : p < N := (rg_T hb).lt (by rcases e with e | e | e | e <;> rw [e] <;> decide)
      rw [hR.2.1]
      refine ih (p + 1) _ (by omega) (by omega) (hR.pos (p + 1)) ?_
      have e2 : ((p + 1 : Nat) : Int) = (p : Int) + 1 := by omega
      rw [jSk_step, if_pos e] at hQ
      rw [← e2, zu_zu]
      exact hQ
    refine q_look Γ hok ht hb hR hp ?_
    rw [rb_w hb]
    refine ⟨fun e => yes (Or.inr (Or.inr (Or.inr ((g_eq hb rfl (by decide)).mpr e)))), fun n1 => ?_⟩
    refine q_look Γ hok ht hb hR hp ?_
    rw [rb_w hb]
    refine ⟨fun e => yes (Or.inl ((g_eq hb rfl (by decide)).mpr e)), fun n2 => ?_⟩
    refine q_look Γ hok ht hb hR hp ?_
    rw [rb_w hb]
    refine ⟨fun e => yes (Or.inr (Or.inl ((g_eq hb rfl (by decide)).mpr e))), fun n3 => ?_⟩
    refine q_look Γ hok ht hb hR hp ?_
    rw [rb_w hb]
    refine ⟨fun e => yes (Or.inr (Or.inr (Or.inl ((g_eq hb rfl (by decide)).mpr e)))), fun n4 => ?_⟩
    rw [jSk_step, if_neg ?_, zu_id hR.2.1] at hQ
    · exact hQ
    · rintro (e | e | e | e)
      · exact n2 ((g_eq hb rfl (by decide)).mp e)
      · exact n3 ((g_eq hb rfl (by decide)).mp e)
      · exact n4 ((g_eq hb rfl (by decide)).mp e)
      · exact n1 ((g_eq hb rfl (by decide)).mp e)
theorem q_blanks (Γ : rt_Γ l s0 a0 G ca) (hd : 1 ≤ d) (hok : zok C) (ht : zTx S t) (hb : rOk bt N) (hR : RS M t bt N p dp W L) (hp : p ≤ N) (h : Q 0 (zu M t 2 (jSk (rg bt N) 4096 p))) : zm_X10_blanks l s0 G ca d C S t M Q X := by
  refine z_X10_blanks Γ hd hok ht ?_
  have hN := hb.1
  unfold zt_X10_blanks
  have yes : ∀ M1 : zM, M1 = M → (rg bt N p = 9 ∨ rg bt N p = 10 ∨ rg bt N p = 13 ∨ rg bt N p = 32) → zt_X10_blanks_36 l s0 G ca d C S (zw s0 ca C S M) t M1 Q X := fun M1 e1 e => by
    subst e1
    unfold zt_X10_blanks_36
    have hlt : p < N := (rg_T hb).lt (by rcases e with e | e | e | e <;> rw [e] <;> decide)
    rw [hR.2.1]
    refine q_blanksL Γ hd hok ht hb 4095 (p + 1) _ (by omega) (by omega) (hR.pos (p + 1)) ?_
    have e2 : ((p + 1 : Nat) : Int) = (p : Int) + 1 := by omega
    rw [jSk_step, if_pos e] at h
    rw [← e2, zu_zu]
    exact h
  refine q_look Γ hok ht hb hR hp ?_
  rw [rb_w hb]
  refine ⟨fun e => yes M rfl (Or.inr (Or.inr (Or.inr ((g_eq hb rfl (by decide)).mpr e)))), fun n1 => ?_⟩
  refine q_look Γ hok ht hb hR hp ?_
  rw [rb_w hb]
  refine ⟨fun e => yes M rfl (Or.inl ((g_eq hb rfl (by decide)).mpr e)), fun n2 => ?_⟩
  refine q_look Γ hok ht hb hR hp ?_
  rw [rb_w hb]
  refine ⟨fun e => yes M rfl (Or.inr (Or.inl ((g_eq hb rfl (by decide)).mpr e))), fun n3 => ?_⟩
  refine q_look Γ hok ht hb hR hp ?_
  rw [rb_w hb]
  refine ⟨fun e => yes M rfl (Or.inr (Or.inr (Or.inl ((g_eq hb rfl (by decide)).mpr e)))), fun n4 => ?_⟩
  rw [jSk_step, if_neg ?_, zu_id hR.2.1] at h
  · exact h
  · rintro (e | e | e | e)
    · exact n2 ((g_eq hb rfl (by decide)).mp e)
    · exact n3 ((g_eq hb rfl (by decide)).mp e)
    · exact n4 ((g_eq hb rfl (by decide)).mp e)
    · exact n1 ((g_eq hb rfl (by decide)).mp e)
/-- a new node: its kind, where it begins -/
def zNode (M : zM) (t : Int) (k p : Int) (W : Int) : zM := zu (zu (zu (zu (zu (zu (zu M (t + 2) W k) (t + 3) W p) (t + 4) W 0) (t + 5) W 0) (t + 6) W (-1)) (t + 7) W (-1)) t 7 (W + 1)
theorem q_node (Γ : rt_Γ l s0 a0 G ca) (hok : zok C) (ht : zTx S t) (hR : RS M t bt N p dp W L) (hW : W < 4200) {k : Int} (h : Q W (zNode M t k p W)) : zm_X10_node l s0 G ca d C S t k M Q X := by
  obtain ⟨h1, h2, h3, h4, h5, h6⟩ := hR
  refine z_X10_node Γ hok ht ?_
  unfold zt_X10_node
  rw [h4, h2]
  have e : (W : Int) + 1 - 1 = W := by omega
  rw [e]
  exact ⟨⟨by omega, by omega⟩, h⟩
theorem zNode_RS {k : Int} (hR : RS M t bt N p dp W L) : RS (zNode M t k p W) t bt N p dp (W + 1) L := by
  obtain ⟨h1, h2, h3, h4, h5, h6⟩ := hR
  unfold zNode
  refine ⟨?_, ?_, ?_, ?_, ?_, fun j => ?_⟩
  · simp (disch := omega) only [zu_k, zu_a, h1]
  · simp (disch := omega) only [zu_k, zu_a, h2]
  · simp (disch := omega) only [zu_k, zu_a, h3]
  · rw [zu_s]; omega
  · simp (disch := omega) only [zu_k, zu_a, h5]
  · simp (disch := omega) only [zu_a, h6]
end RP
