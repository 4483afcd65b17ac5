/-! ===== the reference writes the plain text: words, names ===== -/
/-- what writing may write -/
def wfr (t : Int) (M M1 : zM) : Prop := ∀ a j : Int, ¬ (a = t ∧ j = 33) → ¬ a = t + 20 → ¬ a = t + 21 → M1 a j = M a j
/-- that without what is told -/
def wf2 (t : Int) (M M1 : zM) : Prop := ∀ a j : Int, ¬ (a = t ∧ j = 33) → ¬ a = t + 20 → M1 a j = M a j
theorem wfr.rf {t : Int} {M : zM} : wfr t M M := fun _ _ _ _ _ => rfl
theorem wfr.tr {t : Int} {M M1 M2 : zM} (h1 : wfr t M M1) (h2 : wfr t M1 M2) : wfr t M M2 := fun a j n1 n2 n3 => (h2 a j n1 n2 n3).trans (h1 a j n1 n2 n3)
theorem wf2.w {t : Int} {M M1 : zM} (h : wf2 t M M1) : wfr t M M1 := fun a j n1 n2 _ => h a j n1 n2
theorem wf2.rf {t : Int} {M : zM} : wf2 t M M := fun _ _ _ _ => rfl
theorem wf2.tr {t : Int} {M M1 M2 : zM} (h1 : wf2 t M M1) (h2 : wf2 t M1 M2) : wf2 t M M2 := fun a j n1 n2 => (h2 a j n1 n2).trans (h1 a j n1 n2)
theorem wf2_put {t : Int} {M M1 : zM} {A x y : Int} (h : wf2 t M M1) : wf2 t M (zu (zu M1 (t + 20) A x) t 33 y) := fun a j n1 n2 => by
  rw [zu_ne n1, zu_a n2]
  exact h a j n1 n2
theorem rTx.w {t : Int} {M M1 : zM} {xs : List JR} (hT : rTx M t xs) (h : wfr t M M1) : rTx M1 t xs := ⟨rRep.fr (fun a h1 h2 => funext fun j => h a j (by omega) (by omega) (by omega)) hT.1, hT.2⟩
theorem rC.w {t : Int} {M M1 : zM} {xs : List JR} {st : SS} (hC : rC M t xs st) (h : wfr t M M1) : rC M1 t xs st := by
  obtain ⟨⟨a1, a2, a3, a4⟩, h6, hn, hf, l1⟩ := hC
  refine ⟨⟨by rw [h _ _ (by omega) (by omega) (by omega)]; exact a1, by rw [h _ _ (by omega) (by omega) (by omega)]; exact a2, by rw [h _ _ (by omega) (by omega) (by omega)]; exact a3, by rw [h _ _ (by omega) (by omega) (by omega)]; exact a4⟩, fun i hi => ?_, fun i n hi => ?_, fun i z hz => ?_, l1⟩
  · rw [h _ _ (by omega) (by omega) (by omega), h _ _ (by omega) (by omega) (by omega), h _ _ (by omega) (by omega) (by omega)]
    exact h6 i hi
  · exact (hn i n hi).mono (fun a _ _ => h _ _ (by omega) (by omega) (by omega)) (fun q _ a _ _ => h _ _ (by omega) (by omega) (by omega))
  · rw [h _ _ (by omega) (by omega) (by omega)]
    exact hf i z hz
section VAs
variable {l : Launch} {s0 : State} {a0 : Array Value} {G : va_G} {ca : Nat → ClassId} {d : Nat} {C : Nat × Nat} {S : zS} {M : zM} {Q : Int → zM → Prop} {X : zM → Prop} {xs : List JR} {v : Nat} {t : Int} {st : SS} {A : Nat}
theorem r_putL (Γ : rt_Γ l s0 a0 G ca) (hd : 4 ≤ d) (hok : zok C) (ht : zTx S t) {q : Nat} {wb : List Int} (hq : zstr s0 q wb) {w0 : rt_Wd} {M0 : zM} (hA : A + wb.length ≤ 4200) (hQ : ∀ M1 : zM, M1 t 33 = ((A + wb.length : Nat) : Int) → wf2 t M0 M1 → Q 0 M1) : ∀ (r k : Nat) (M : zM), k + r = wb.length → M t 33 = ((A + k : Nat) : Int) → wf2 t M0 M → zg_X10_put_2 l s0 G ca d C S w0 t q wb k M Q X := by
  have hb := hq.2.2
  intro r
  induction r with
  | zero =>
    intro k M hk h33 hf
    refine zs_X10_put_2 Γ (by omega) hok ht hq ?_
    unfold zt_X10_put_2
    rw [w32_id (x := ((wb.length : Nat) : Int)) (by omega) (by omega), w32_id (x := (k : Int)) (by omega) (by omega)]
    refine ⟨fun _ => hQ M ?_ hf, fun c => by omega⟩
    rw [h33, show k = wb.length by omega]
  | succ r ih =>
    intro k M hk h33 hf
    refine zs_X10_put_2 Γ (by omega) hok ht hq ?_
    unfold zt_X10_put_2
    rw [w32_id (x := ((wb.length : Nat) : Int)) (by omega) (by omega), w32_id (x := (k : Int)) (by omega) (by omega), h33]
    refine ⟨fun c => by omega, fun _ => ⟨⟨by omega, by omega⟩, ⟨by omega, by omega⟩, ?_⟩⟩
    rw [show (k : Int) + 1 = ((k + 1 : Nat) : Int) by omega]
    exact ih (k + 1) _ (by omega) (by rw [zu_s]; omega) (wf2_put hf)
theorem r_put (Γ : rt_Γ l s0 a0 G ca) (hd : 4 ≤ d) (hok : zok C) (ht : zTx S t) {q : Nat} {wb : List Int} (hq : zstr s0 q wb) (h33 : M t 33 = (A : Int)) (hA : A + wb.length ≤ 4200) (hQ : ∀ M1 : zM, M1 t 33 = ((A + wb.length : Nat) : Int) → wf2 t M M1 → Q 0 M1) : zm_X10_put l s0 G ca d C S t q M Q X := by
  refine z_X10_put Γ (by omega) hok ht hq ?_
  unfold zt_X10_put
  exact r_putL Γ hd hok ht hq (M0 := M) hA hQ wb.length 0 M (Nat.zero_add _) h33 wf2.rf
theorem r_nameL (Γ : rt_Γ l s0 a0 G ca) (hd : 5 ≤ d) (hok : zok C) (ht : zTx S t) {n : Int} (hn0 : 0 ≤ n) (hn : n < 4200) {L : Nat} {ws : List Int32} {w0 : rt_Wd} {M0 : zM} (hL : L + ws.length ≤ 4200) (hA : A + ws.length + 2 ≤ 4200) (hQ : ∀ M1 : zM, M1 t 33 = ((A + ws.length + 2 : Nat) : Int) → wf2 t M0 M1 → Q 0 M1) : ∀ (r k : Nat) (M : zM), k + r = ws.length → rStr M t n L ws → M t 33 = ((A + 1 + k : Nat) : Int) → wf2 t M0 M → zg_X10_putName_9 l s0 G ca d C S w0 t n k M Q X := by
  intro r
  induction r with
  | zero =>
    intro k M hk hs h33 hf
    obtain ⟨k1, k2, k3, k4⟩ := hs
    refine zs_X10_putName_9 Γ (by omega) hok ht ?_
    unfold zt_X10_putName_9
    rw [k3, w32_id (x := ((ws.length : Nat) : Int)) (by omega) (by omega), w32_id (x := (k : Int)) (by omega) (by omega)]
    refine ⟨⟨hn0, hn⟩, fun _ q59 h59 => ?_, fun c => by omega⟩
    refine r_put Γ (by omega) hok ht h59 h33 (by show A + 1 + k + 1 ≤ 4200; omega) (fun M1 g1 g2 => hQ M1 ?_ (hf.tr g2))
    have g3 : M1 t 33 = ((A + 1 + k + 1 : Nat) : Int) := g1
    rw [g3]
    omega
  | succ r ih =>
    intro k M hk hs h33 hf
    have hs0 := hs
    obtain ⟨k1, k2, k3, k4⟩ := hs
    refine zs_X10_putName_9 Γ (by omega) hok ht ?_
    unfold zt_X10_putName_9
    rw [k3, k2, w32_id (x := ((ws.length : Nat) : Int)) (by omega) (by omega), w32_id (x := (k : Int)) (by omega) (by omega), h33]
    refine ⟨⟨hn0, hn⟩, fun c => by omega, fun _ => ⟨⟨by omega, by omega⟩, ⟨by omega, by omega⟩, ?_⟩⟩
    rw [show (k : Int) + 1 = ((k + 1 : Nat) : Int) by omega]
    refine ih (k + 1) _ (by omega) (hs0.fr (fun a h1 h2 => funext fun j => ?_)) (by rw [zu_s]; omega) (wf2_put hf)
    rw [zu_a (by omega), zu_a (by omega)]
theorem r_name (Γ : rt_Γ l s0 a0 G ca) (hd : 5 ≤ d) (hok : zok C) (ht : zTx S t) (hT : rTx M t xs) (hv : v < xs.length) (hk : (xx xs v).kd = 3) (h33 : M t 33 = (A : Int)) (hA : A + (xx xs v).ws.length + 2 ≤ 4200) (hQ : ∀ M1 : zM, M1 t 33 = ((A + (xx xs v).ws.length + 2 : Nat) : Int) → wf2 t M M1 → Q 0 M1) : zm_X10_putName l s0 G ca d C S t (rP xs v : Nat) M Q X := by
  refine z_X10_putName Γ (by omega) hok ht ?_
  unfold zt_X10_putName
  intro q1 h1
  obtain ⟨L, g1, g2, g3⟩ := r_str hT hv hk
  refine r_put Γ (by omega) hok ht h1 h33 (by show A + 1 ≤ 4200; omega) (fun M1 f1 f2 => ?_)
  refine r_nameL (A := A) Γ hd hok ht (by omega) (by omega) (by omega) hA hQ (xx xs v).ws.length 0 M1 (Nat.zero_add _) (g1.fr (fun a h1 h2 => funext fun j => f2 a j (by omega) (by omega))) f1 f2
theorem r_fig (Γ : rt_Γ l s0 a0 G ca) (hok : zok C) (ht : zTx S t) {x : Int} (h33 : M t 33 = (A : Int)) (hA : A + 1 ≤ 4200) (hQ : ∀ M1 : zM, M1 t 33 = ((A + 1 : Nat) : Int) → wf2 t M M1 → Q 0 M1) : zm_X10_figure l s0 G ca d C S t x M Q X := by
  refine z_X10_figure Γ hok ht ?_
  unfold zt_X10_figure
  rw [h33]
  refine ⟨⟨by omega, by omega⟩, hQ _ (by rw [zu_s]; omega) (wf2_put wf2.rf)⟩
end VAs
