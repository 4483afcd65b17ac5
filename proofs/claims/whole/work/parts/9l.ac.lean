/-! ===== the reference between calls; whether one fits ===== -/
abbrev kST : Type := Nat → Option (List Nat × List JR × Nat × SS)
/-- the reference's memory says the state -/
def mI (M : zM) (tb : List Nat) (ks : kST) (L : List (List Nat)) (ow : Int) (out : List Nat) (pl : Int) : Prop :=
  (M 84 2 = (tb.length : Int) ∧ ∀ j : Nat, j < tb.length → M 85 (j : Int) = w8 (tb.getD j 0 : Nat)) ∧ (∀ k : Nat, k < 8 → (ks k = none → M 131 (k : Int) = -1) ∧ ∀ z : List Nat × List JR × Nat × SS, ks k = some z → kpt M k z.1) ∧
  (M 84 9 = ow ∧ M 84 10 = (L.length : Int) ∧ M 84 11 = (L.flatten.length : Int) ∧ rdW M 0 L.flatten) ∧ (M 84 13 = (out.length : Int) ∧ ∀ j : Nat, j < out.length → M 133 (j : Int) = w8 (out.getD j 0 : Nat)) ∧ M 84 3 = pl
theorem mI.fr {M M1 : zM} {tb : List Nat} {ks : kST} {L : List (List Nat)} {ow : Int} {out : List Nat} {pl : Int} (h : mI M tb ks L ow out pl) (e : ∀ c j : Int, (c = 84 ∧ (j = 2 ∨ j = 3 ∨ j = 9 ∨ j = 10 ∨ j = 11 ∨ j = 13)) ∨ c = 85 ∨ (130 ≤ c ∧ c ≤ 133) → M1 c j = M c j) : mI M1 tb ks L ow out pl := by
  obtain ⟨h1, h2, h3, h4, h5⟩ := h
  refine ⟨⟨(e _ _ (by decide)).trans h1.1, fun j hj => (e _ _ (by omega)).trans (h1.2 j hj)⟩, fun k hk => ⟨fun c => (e _ _ (by omega)).trans ((h2 k hk).1 c), fun z hz => ((h2 k hk).2 z hz).fr (fun a j ha => e _ _ (by omega))⟩, ⟨(e _ _ (by decide)).trans h3.1, (e _ _ (by decide)).trans h3.2.1, (e _ _ (by decide)).trans h3.2.2.1, fun j hj => (e _ _ (by omega)).trans (h3.2.2.2 j hj)⟩, ⟨(e _ _ (by decide)).trans h4.1, fun j hj => (e _ _ (by omega)).trans (h4.2 j hj)⟩, (e _ _ (by decide)).trans h5⟩
/-- the state hangs together -/
def dOk (ks : kST) (L : List (List Nat)) (ow : Int) : Prop := (∀ (k : Nat) (z : List Nat × List JR × Nat × SS), ks k = some z → k < 8 ∧ gT z.1 z.2.1 z.2.2.1 z.2.2.2) ∧ ((ow = -1 ∧ L = []) ∨ ∃ (k : Nat) (z : List Nat × List JR × Nat × SS), ow = (k : Int) ∧ ks k = some z ∧ ∀ w ∈ L, yN z.2.2.2.ns 32 z.2.2.1 w) ∧ L.flatten.length ≤ 4000 ∧ L.length ≤ 4000
/-- what the reference may write -/
def mfm (M M1 : zM) : Prop := ∀ c j : Int, (c < 84 ∨ 136 < c) → M1 c j = M c j
theorem mfm.rf {M : zM} : mfm M M := fun _ _ _ => rfl
theorem mfm.tr {M M1 M2 : zM} (h : mfm M M1) (h1 : mfm M1 M2) : mfm M M2 := fun c j n => (h1 c j n).trans (h c j n)
theorem mfm.zu {M M1 : zM} (h : mfm M M1) {a k v : Int} (ha : 84 ≤ a ∧ a ≤ 136) : mfm M (zu M1 a k v) := fun c j n => (zu_a (by omega)).trans (h c j n)
theorem zfr.m {t : Int} {M M1 : zM} (h : zfr t M M1) (ht : t = 86 ∨ t = 108) : mfm M M1 := fun c j n => h c j (by omega)
/-- what is refused: a place that is none: 1; no schema there: 2 -/
def rcd (a b : Prop) [Decidable a] [Decidable b] : Int := if a then 1 else if b then 2 else 0
section LC
variable {l : Launch} {s0 : State} {a0 : Array Value} {G : va_G} {ca : Nat → ClassId} {d : Nat} {C : Nat × Nat} {S : zS} {M : zM}
theorem m_within {Q : Int → zM → Prop} {X : zM → Prop} (Γ : rt_Γ l s0 a0 G ca) (hok : zok C) (hs : zSok S) {a b c : Int} (ha : -2147483648 ≤ a ∧ a < 2147483648) (hb : -2147483648 ≤ b ∧ b < 2147483648) (hc : -2147483648 ≤ c ∧ c < 2147483648) (h1 : b ≤ a → a ≤ c → Q 1 M) (h0 : ¬ (b ≤ a ∧ a ≤ c) → Q 0 M) : zm_X11_within l s0 G ca d C S a b c M Q X := by
  refine z_X11_within Γ hok hs ?_
  unfold zt_X11_within
  rw [w32_id ha.1 ha.2, w32_id hb.1 hb.2, w32_id hc.1 hc.2]
  exact ⟨fun c1 => h0 (by omega), fun c1 => ⟨fun c2 => h0 (by omega), fun c2 => h1 (by omega) (by omega)⟩⟩
theorem m_isP {Q : Int → zM → Prop} {X : zM → Prop} (Γ : rt_Γ l s0 a0 G ca) (hd : 1 ≤ d) (hok : zok C) (hs : zSok S) {p : Int} (hp : -2147483648 ≤ p ∧ p < 2147483648) (h1 : 0 ≤ p → p < 8 → Q 1 M) (h0 : ¬ (0 ≤ p ∧ p < 8) → Q 0 M) : zm_X11_isPlace l s0 G ca d C S p M Q X := by
  refine z_X11_isPlace Γ (by omega) hok hs ?_
  unfold zt_X11_isPlace
  exact m_within Γ hok hs hp (by decide) (by decide) (fun a b => ⟨Or.inr rfl, h1 a (by omega)⟩) (fun h => ⟨Or.inl rfl, h0 (by omega)⟩)
theorem m_refd {Q : Int → zM → Prop} {X : zM → Prop} (Γ : rt_Γ l s0 a0 G ca) (hd : 1 ≤ d) (hok : zok C) (hs : zSok S) {a b : Int} (ha : a = 0 ∨ a = 1) (hb : b = 0 ∨ b = 1) (h0 : a = 0 → b = 0 → Q 0 (zu M 84 0 0)) (h1 : a = 1 → Q 1 (zu M 84 0 1)) (h2 : a = 0 → b = 1 → Q 1 (zu M 84 0 2)) : zm_X11_refused l s0 G ca d C S a b M Q X := by
  refine z_X11_refused Γ hok hs ?_
  unfold zt_X11_refused zt_X11_refused_18
  rcases ha with rfl | rfl
  · rcases hb with rfl | rfl
    · exact zIf_t (by decide) (zIf_t (by decide) (zIf_t (by decide) (h0 rfl rfl)))
    · exact zIf_t (by decide) (zIf_f (by decide) (zIf_f (by decide) (h2 rfl rfl)))
  · exact zIf_f (by decide) (zIf_f (by decide) (h1 rfl))
end LC
