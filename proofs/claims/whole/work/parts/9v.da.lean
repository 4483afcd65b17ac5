/-! ===== steps of the law: class and reference side by side, between calls ===== -/
theorem i_lt0 {p : Int32} : p < 0 ↔ p.toInt < 0 := Int32.lt_iff_toInt_lt
theorem i_lt8 {p : Int32} : p < 8 ↔ p.toInt < 8 := Int32.lt_iff_toInt_lt
theorem i_ge8 {p : Int32} : 8 ≤ p ↔ 8 ≤ p.toInt := Int32.le_iff_toInt_le
theorem i_b (p : Int32) : -2147483648 ≤ p.toInt ∧ p.toInt < 2147483648 := ⟨Int32.le_toInt p, Int32.toInt_lt p⟩
theorem i_of {p : Int32} {u : Int} (h : p.toInt = u) : p = Int32.ofInt u := by rw [← h, Int32.ofInt_toInt]
theorem i64_w (v : Int) : Int64.ofInt (w32 v) = (Int32.ofInt v).toInt64 := by
  refine Int64.toInt_inj.mp ?_
  have := w32_b v
  rw [z_toL, Int32.toInt_toInt64, z_toI, w64_id (by omega) (by omega)]
/-- what holds of the state alone -/
def lD (n : Nat) (tb : List Nat) (ks : kST) (L : List (List Nat)) (ow : Int) (out : List Nat) : Prop := dOk ks L ow ∧ bN out ∧ out.length ≤ 4096 ∧ bN tb ∧ tb.length ≤ 20 * n
/-- how much has been made -/
def lNN (n : Nat) (C : Nat × Nat) (S : zS) : Prop := (∀ b : Int, (C.1 : Int) ≤ b → S b = none) ∧ 138 ≤ C.1 ∧ C.1 ≤ 138 + 40 * n ∧ C.2 ≤ 298622 + 22000 * n
/-- .. within a step -/
def lMM (n : Nat) (C : Nat × Nat) (S : zS) : Prop := (∀ b : Int, (C.1 : Int) ≤ b → S b = none) ∧ 138 ≤ C.1 ∧ C.1 ≤ 138 + 40 * n + 30 ∧ C.2 ≤ 298622 + 22000 * n + 21500
def lJ (C : Nat × Nat) (S : zS) (M : zM) (n : Nat) (tb : List Nat) (ks : kST) (L : List (List Nat)) (ow : Int) (out : List Nat) (pl : Int) : Prop := (∃ a : Nat, a ≤ n ∧ cI S C.1 M tb ks L ow out pl a) ∧ mI M tb ks L ow out pl ∧ lD n tb ks L ow out ∧ lNN n C S
def lI (s0 : State) (ca : Nat → ClassId) (n : Nat) (w : rt_Wd) : Prop := ∃ (C : Nat × Nat) (S : zS) (M : zM) (tb : List Nat) (ks : kST) (L : List (List Nat)) (ow : Int) (out : List Nat) (pl : Int), w = zw s0 ca C S M ∧ lJ C S M n tb ks L ow out pl
/-- an answer v0 and what else the class left -/
def lwP (s0 : State) (ca : Nat → ClassId) (v0 : Int) (R : Nat × Nat → zS → zM → Prop) (v : Int32) (w : rt_Wd) : Prop := ∃ (C1 : Nat × Nat) (S1 : zS) (M1 : zM), w = zw s0 ca C1 S1 M1 ∧ v = Int32.ofInt v0 ∧ zSok S1 ∧ R C1 S1 M1
def lwA (s0 : State) (ca : Nat → ClassId) (v0 : Int) (R : Nat × Nat → zS → zM → Prop) (w : rt_Wd) : Prop := ∃ (C1 : Nat × Nat) (S1 : zS) (M1 : zM), w = zw s0 ca C1 S1 (zu M1 137 0 (w32 v0)) ∧ zSok S1 ∧ R C1 S1 M1
/-- an exception more -/
def lwT (s0 : State) (ca : Nat → ClassId) (C : Nat × Nat) (S : zS) (M : zM) (w : rt_Wd) : Prop := ∃ C1 : Nat × Nat, w = zw s0 ca C1 S M ∧ C.1 ≤ C1.1 ∧ C1.1 ≤ C.1 + 1 ∧ C1.2 = C.2 + 6
section VD
variable {l : Launch} {s0 : State} {a0 : Array Value} {G : va_G} {ca : Nat → ClassId} {C : Nat × Nat} {S : zS} {M : zM} {d n : Nat} {tb : List Nat} {ks : kST} {L : List (List Nat)} {ow : Int} {out : List Nat} {pl : Int} {kc : Cond} {y : MethodName} {av : List Value} {v0 : Int} {k : Int32} {R : Nat × Nat → zS → zM → Prop} {t : Nat}
theorem lw_131 (hs : zSok S) : (zw s0 ca C S M).2.2 137 = some (.inl (ca 2, 1, .inr (.inl (fun j : Nat => Int64.ofInt (M 137 j))))) := zw_at (a := 137) (by decide) (hs 137 _ rfl)
theorem lw_78 (hs : zSok S) : ∃ fs : List Value, (zw s0 ca C S M).2.2 84 = some (.inr (11, fs)) := ⟨_, zw_at (a := 84) (by decide) (hs 84 _ rfl)⟩
theorem lw_0 (hs : zSok S) : ∃ fs : List Value, (zw s0 ca C S M).2.2 0 = some (.inr (9, fs)) := ⟨_, zw_at (a := 0) (by decide) (hs 0 _ rfl)⟩
theorem lw_th (Γ : rt_Γ l s0 a0 G ca) (hok : zok C) (hs : zSok S) (h : M 84 0 = k.toInt) : rt_Met l s0 G (.code yX11_thrown cX11_thrown 1 (Option.some FieldType.int)) yX11_thrown 2035 [rt_r s0 84] (zw s0 ca C S M) (rt_is (.inl (some (.int k))) (zw s0 ca C S M)) := by
  have K : zm_X11_thrown l s0 G ca 2035 C S M (fun v M1 => v = M 84 0 ∧ M1 = M) (fun _ => False) := z_X11_thrown Γ hok hs (show zt_X11_thrown l s0 G ca 2035 C S (zw s0 ca C S M) M _ _ from ⟨rfl, rfl⟩)
  refine rt_Met.mono (fun r w1 q => ?_) K
  rcases q with ⟨v, M1, h1, h2, h3, h4⟩ | ⟨-, _, _, -, -, -, h5⟩
  · refine ⟨h1.trans ?_, by rw [h2, h4]⟩
    rw [h3, h]
    exact congrArg (fun z => (Sum.inl (some (Value.int z)) : rt_Res)) (Int32.ofInt_toInt k)
  · exact h5.elim
theorem zMet.uu {Q0 : Int → zM → Prop} {Q : Nat × Nat → Int → zM → Prop} (h : zMet l s0 G ca kc y t d av C S M Q0 (fun _ => False)) (k : ∀ v M1, Q0 v M1 → Q C v M1) : zMetU l s0 G ca kc y t d av C S M Q := rt_Met.mono (fun r w1 q => by
  rcases q with ⟨v, M1, h1, h2, h3⟩ | ⟨-, _, _, -, -, -, h5⟩
  · exact ⟨v, C, M1, h1, h2, k v M1 h3⟩
  · exact h5.elim) h
theorem zMet.ss {Q0 : Int → zM → Prop} {Q : Nat × Nat → zS → Int → zM → Prop} (h : zMet l s0 G ca kc y t d av C S M Q0 (fun _ => False)) (k : ∀ v M1, Q0 v M1 → Q C S v M1) : zMetS l s0 G ca kc y t d av C S M Q := rt_Met.mono (fun r w1 q => by
  rcases q with ⟨v, M1, h1, h2, h3⟩ | ⟨-, _, _, -, -, -, h5⟩
  · exact ⟨v, C, S, M1, h1, h2, k v M1 h3⟩
  · exact h5.elim) h
theorem zMetU.mono {Q Q1 : Nat × Nat → Int → zM → Prop} (h : zMetU l s0 G ca kc y t d av C S M Q) (k : ∀ C1 v M1, Q C1 v M1 → Q1 C1 v M1) : zMetU l s0 G ca kc y t d av C S M Q1 := rt_Met.mono (fun r w1 ⟨v, C1, M1, h1, h2, h3⟩ => ⟨v, C1, M1, h1, h2, k C1 v M1 h3⟩) h
theorem zMet.s9 {Q : Nat × Nat → zS → Int → zM → Prop} (h : zMet l s0 G ca kc y t d av C S M (fun v M1 => Q C S v M1) (fun _ => False)) : zMetS l s0 G ca kc y t d av C S M Q := h.ss (fun _ _ q => q)
theorem zMet.u9 {Q : Nat × Nat → Int → zM → Prop} (h : zMet l s0 G ca kc y t d av C S M (fun v M1 => Q C v M1) (fun _ => False)) : zMetU l s0 G ca kc y t d av C S M Q := h.uu (fun _ _ q => q)
theorem lw_v (p : Int32) : Value.int p = zv s0 0 p.toInt := (congrArg Value.int (Int32.ofInt_toInt p)).symm
/-- the class's answer, before the law takes it -/
theorem lw_A0 (h : zMetS l s0 G ca kc y 0 d av C S M (fun C1 S1 v M1 => v = v0 ∧ zSok S1 ∧ R C1 S1 M1)) : rt_Met l s0 G kc y d av (zw s0 ca C S M) (rt_an (lwP s0 ca v0 R)) :=
  rt_Met.mono (fun r w1 ⟨v, C1, S1, M1, h1, h2, h3, h4, h5⟩ => ⟨Int32.ofInt v, h1, C1, S1, M1, h2, by rw [h3], h4, h5⟩) h
theorem lwP_o (v : Int32) (w1 : rt_Wd) (h : lwP s0 ca v0 R v w1) : ∃ g : Nat → Int64, w1.2.2 137 = some (.inl (ca 2, 1, .inr (.inl g))) := by
  obtain ⟨C1, S1, M1, rfl, -, hs, -⟩ := h
  exact ⟨_, lw_131 hs⟩
theorem lw_A1 {w : rt_Wd} (h : rt_Met l s0 G kc y d av w (rt_o0 ca 137 (lwP s0 ca v0 R))) : rt_Met l s0 G kc y d av w (fun r w1 => r = .inl (some (.int 0)) ∧ lwA s0 ca v0 R w1) := by
  refine rt_Met.mono (fun r w2 q => ?_) h
  obtain ⟨h1, v, w1, g, ⟨C1, S1, M1, rfl, rfl, hs, hR⟩, hg, rfl⟩ := q
  refine ⟨h1, C1, S1, M1, ?_, hs, hR⟩
  have e := hg.symm.trans (lw_131 hs)
  have eg : g = fun j : Nat => Int64.ofInt (M1 137 j) := by
    have := Option.some.inj e
    injection this with this
    injection this with _ this
    injection this with _ this
    injection this with this
    injection this with this
  refine zw_up (a := 137) (by decide) (hs 137 _ rfl) ?_ (fun b hb => funext fun j => zu_a hb)
  show (Sum.inl (ca 2, 1, .inr (.inl (fun j : Nat => Int64.ofInt (zu M1 137 0 (w32 v0) 137 j)))) : va_E) = _
  refine congrArg (fun f => (Sum.inl (ca 2, 1, .inr (.inl f)) : va_E)) (funext fun j => ?_)
  rw [eg]
  unfold vp_updL
  by_cases hj : j = 0
  · subst hj
    rw [show zu M1 137 0 (w32 v0) 137 ((0 : Nat) : Int) = w32 v0 from zu_s _ _ _ _, i64_w]
    rfl
  · rw [zu_k (by omega)]
    have : ¬ j = (0 : Int32).toNatClampNeg := fun h => hj (h.trans (by decide))
    simp only [this, if_false]
/-- what the class throws is caught: nothing changed -/
theorem lw_ir (h : rt_Met l s0 G kc y d av (zw s0 ca C S M) (rt_ir k (zw s0 ca C S M))) : rt_Met l s0 G kc y d av (zw s0 ca C S M) (fun r w1 => r = .inl (some (.int k)) ∧ lwT s0 ca C S M w1) :=
  rt_Met.mono (fun r w1 ⟨h1, h2, h3, h4, h5⟩ => ⟨h1, (w1.1, w1.2.1), Prod.ext rfl (Prod.ext rfl h2), h3, h4, h5⟩) h
/-- the reference, behind the class: it answers alike -/
theorem lw_B (Γ : rt_Γ l s0 a0 G ca) (hn : n < 64) (hc : ∃ a : Nat, a ≤ n + 1 ∧ cI S C.1 M tb ks L ow out pl a) (hd : lD (n + 1) tb ks L ow out) (hm : lMM n C S) (h131 : k = 0 → M 137 0 = w32 v0)
    (hM : zMetU l s0 G ca kc y 0 2035 av C S M (fun C2 u M2 => zcl 4 C C2 ∧ (k = 0 → u = v0) ∧ mI M2 tb ks L ow out pl ∧ mfm M M2 ∧ M2 84 0 = k.toInt)) :
    rt_ok (zw s0 ca C S M) ∧ (∃ fs : List Value, (zw s0 ca C S M).2.2 84 = some (.inr (11, fs))) ∧ rt_Met l s0 G kc y 2035 av (zw s0 ca C S M) (rt_an (fun v w2 => rt_mk l s0 G k w2 ∧ (k = 0 → rt_o9 ca w2 v.toInt64) ∧ lI s0 ca (n + 1) w2)) := by
  obtain ⟨a, ha, hc⟩ := hc
  obtain ⟨n1, n2, n3, n4⟩ := hm
  have hs : zSok S := hc.1.1
  refine ⟨⟨by show C.1 ≤ _; omega, by show C.2 ≤ _; omega⟩, lw_78 hs, rt_Met.mono (fun r w1 q => ?_) hM⟩
  obtain ⟨u, C2, M2, h1, rfl, ⟨z1, z2, z3, z4⟩, hu, hI, hf, h0⟩ := q
  refine ⟨Int32.ofInt u, h1, ⟨⟨by show C2.1 ≤ _; omega, by show C2.2 ≤ _; omega⟩, lw_78 hs, lw_th Γ ⟨by omega, by omega⟩ hs h0⟩, fun hk => ?_, C2, S, M2, tb, ks, L, ow, out, pl, rfl, ⟨a, ha, (hc.md (fun c j h => hf c j (by omega))).up z1⟩, hI, hd, fun b hb => n1 b (by omega), by omega, by omega, by omega⟩
  refine ⟨_, lw_131 hs, ?_⟩
  show Int64.ofInt (M2 137 ((0 : Nat) : Int)) = _
  rw [hf 137 _ (by omega), show M 137 ((0 : Nat) : Int) = w32 v0 from h131 hk, i64_w, hu hk]
/-- .. where the class threw -/
theorem lw_T (Γ : rt_Γ l s0 a0 G ca) (hn : n < 64) (hJ : lJ C S M n tb ks L ow out pl) (hk : ¬ k = 0) {w : rt_Wd} (hw : lwT s0 ca C S M w)
    (hM : ∀ C1 : Nat × Nat, zokB C1 → zMetU l s0 G ca kc y 0 2035 av C1 S M (fun C2 u M2 => zcl 4 C1 C2 ∧ mI M2 tb ks L ow out pl ∧ mfm M M2 ∧ M2 84 0 = k.toInt)) :
    rt_ok w ∧ (∃ fs : List Value, w.2.2 84 = some (.inr (11, fs))) ∧ rt_Met l s0 G kc y 2035 av w (rt_an (fun v w2 => rt_mk l s0 G k w2 ∧ (k = 0 → rt_o9 ca w2 v.toInt64) ∧ lI s0 ca (n + 1) w2)) := by
  obtain ⟨C1, rfl, c1, c2, c3⟩ := hw
  obtain ⟨⟨a, ha, hc⟩, hI, ⟨d1, d2, d3, d4, d5⟩, n1, n2, n3, n4⟩ := hJ
  exact lw_B (v0 := 0) Γ hn ⟨a, by omega, hc.up c1⟩ ⟨d1, d2, d3, d4, by omega⟩ ⟨fun b hb => n1 b (by omega), by omega, by omega, by omega⟩ (fun e => absurd e hk) ((hM C1 ⟨by omega, by omega⟩).mono (fun C2 u M2 ⟨q1, q2, q3, q4⟩ => ⟨q1, fun e => absurd e hk, q2, q3, q4⟩))
theorem lJ.ok (h : lJ C S M n tb ks L ow out pl) (hn : n < 64) : zokB C ∧ zSok S ∧ rt_ok (zw s0 ca C S M) ∧ ((zw s0 ca C S M).1 + 1 ≤ 600000 ∧ (zw s0 ca C S M).2.1 + 6 ≤ 7300000) ∧ zok C := by
  obtain ⟨⟨a, ha, hc⟩, hI, -, n1, n2, n3, n4⟩ := h
  exact ⟨⟨by omega, by omega⟩, hc.1.1, ⟨by show C.1 ≤ _; omega, by show C.2 ≤ _; omega⟩, ⟨by show C.1 + 1 ≤ _; omega, by show C.2 + 6 ≤ _; omega⟩, by omega, by omega⟩
/-- the class's cells where it throws -/
theorem lw_x0 (h : lJ C S M n tb ks L ow out pl) : ∃ (cu sp : Nat) (rp fp : Int32), (zw s0 ca C S M).2.2 0 = some (.inr (9, [rt_r s0 1, rt_r s0 3, rt_r s0 5, rt_r s0 6, rt_r s0 24, rt_r s0 55, rt_r s0 56, rt_r s0 69, rt_r s0 cu, rt_r s0 sp, .int rp, .int fp])) ∧ (cu = 74 ∨ cu = 79) ∧ rws M cu L := by
  obtain ⟨⟨a, ha, hc⟩, -⟩ := h
  obtain ⟨⟨hs, -⟩, -, -, ⟨cu, sp, h4, h5, h6, h7⟩, -⟩ := hc
  have h : (zw s0 ca C S M).2.2 0 = some (.inr (9, [zv s0 2 1, zv s0 2 3, zv s0 2 5, zv s0 2 6, zv s0 2 24, zv s0 2 55, zv s0 2 56, zv s0 2 69, zv s0 2 (M 0 8), zv s0 2 (M 0 9), .int (Int32.ofInt (M 0 10)), .int (Int32.ofInt (M 0 11))])) := zw_at (a := 0) (by decide) (hs 0 _ rfl)
  rcases h4 with ⟨rfl, rfl⟩ | ⟨rfl, rfl⟩
  · rw [h5, h6] at h
    exact ⟨74, 79, _, _, h, Or.inl rfl, h7⟩
  · rw [h5, h6] at h
    exact ⟨79, 74, _, _, h, Or.inr rfl, h7⟩
theorem lw_ce {c m : Nat} (h : zCe S (c : Int) ((c : Int) + 1) m) : rt_C s0 ca (zw s0 ca C S M) c m (fun j : Nat => Int32.ofInt (M ((c : Int) + 1) j)) (Int32.ofInt (M (c : Int) 1)) := by
  obtain ⟨h0, h1, h2, h3, h4⟩ := h
  have e1 := zw_at (s0 := s0) (ca := ca) (C := C) (M := M) h0 h3
  have e2 := zw_at (s0 := s0) (ca := ca) (C := C) (M := M) h1 h4
  rw [Int.toNat_natCast] at e1
  rw [show ((c : Int) + 1).toNat = c + 1 by omega] at e2
  refine ⟨e1.trans ?_, e2⟩
  show some (Sum.inr (0, [zv s0 2 ((c : Int) + 1), zv s0 0 (M (c : Int) 1)]) : va_E) = _
  rw [zv_ref (by omega), show ((c : Int) + 1).toNat = c + 1 by omega]
  rfl
theorem lw_ck (hs : zSok S) : (zw s0 ca C S M).2.2 5 = some (.inl (ca 4, 8, .inr (.inr (.inr (.inr (fun j : Nat => if M 5 j < 0 then none else some (s0.heap.size + (M 5 j).toNat))))))) := zw_at (a := 5) (by decide) (hs 5 _ rfl)
theorem lw_rw {cu : Nat} (hs : zSok S) (h : cu = 74 ∨ cu = 79) : (zw s0 ca C S M).2.2 cu = some (.inr (5, [rt_r s0 (cu + 1), rt_r s0 (cu + 3)])) ∧ rt_C s0 ca (zw s0 ca C S M) (cu + 1) 4096 (fun j : Nat => Int32.ofInt (M ((cu : Int) + 2) j)) (Int32.ofInt (M ((cu : Int) + 1) 1)) ∧ rt_C s0 ca (zw s0 ca C S M) (cu + 3) 4096 (fun j : Nat => Int32.ofInt (M ((cu : Int) + 4) j)) (Int32.ofInt (M ((cu : Int) + 3) 1)) := by
  rcases h with rfl | rfl
  · exact ⟨zw_at (a := 74) (by decide) (hs 74 _ rfl), lw_ce (c := 75) ⟨by decide, by decide, by decide, hs 75 _ rfl, hs 76 _ rfl⟩, lw_ce (c := 77) ⟨by decide, by decide, by decide, hs 77 _ rfl, hs 78 _ rfl⟩⟩
  · exact ⟨zw_at (a := 79) (by decide) (hs 79 _ rfl), lw_ce (c := 80) ⟨by decide, by decide, by decide, hs 80 _ rfl, hs 81 _ rfl⟩, lw_ce (c := 82) ⟨by decide, by decide, by decide, hs 82 _ rfl, hs 83 _ rfl⟩⟩
/-- no schema there -/
theorem lw_kn (h : lJ C S M n tb ks L ow out pl) {p : Int32} (h0 : 0 ≤ p.toInt) (h8 : p.toInt < 8) (hk : ks p.toInt.toNat = none) : (fun j : Nat => if M 5 j < 0 then none else some (s0.heap.size + (M 5 j).toNat)) p.toNatClampNeg = none := by
  obtain ⟨⟨a, ha, hc⟩, -⟩ := h
  obtain ⟨-, ⟨pf, hP, -⟩, -⟩ := hc
  show (if M 5 (p.toInt.toNat : Int) < 0 then none else some _) = none
  rw [(hP p.toInt.toNat (by omega)).1 hk]
  exact if_pos (by decide)
/-- a schema is there -/
theorem lw_ks (h : lJ C S M n tb ks L ow out pl) {p : Int32} (h0 : 0 ≤ p.toInt) (h8 : p.toInt < 8) {z : List Nat × List JR × Nat × SS} (hk : ks p.toInt.toNat = some z) : ∃ q : Nat, (fun j : Nat => if M 5 j < 0 then none else some (s0.heap.size + (M 5 j).toNat)) p.toNatClampNeg = some q := by
  obtain ⟨⟨a, ha, hc⟩, -⟩ := h
  obtain ⟨-, ⟨pf, hP, -⟩, -⟩ := hc
  have := (hP p.toInt.toNat (by omega)).2 z hk
  refine ⟨_, if_neg (show ¬ M 5 (p.toInt.toNat : Int) < 0 from ?_)⟩
  rw [this.1]
  have := this.2.1.2.1
  omega
end VD
