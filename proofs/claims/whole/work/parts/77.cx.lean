/-! ===== the class's Drafter: words, members, names ===== -/
/-- the class's Text holds xs -/
def cTx (M : zM) (xs : List JR) : Prop := cRep M (jLw xs) xs ∧ jWf xs ∧ xs.length ≤ 2000 ∧ jLw xs ≤ 2000
theorem cRec_at {M : zM} {xs : List JR} (hT : cTx M xs) {v : Nat} (hv : v < xs.length) : cRec M (jLw xs) (xx xs v) v := hT.1 v _ (xx_lt hv)
theorem cTx.fr {M M1 : zM} {xs : List JR} (hT : cTx M xs) (e : ∀ a : Int, 8 ≤ a → a ≤ 23 → M1 a = M a) : cTx M1 xs := by
  refine ⟨fun i x hx => ?_, hT.2⟩
  have h := hT.1 i x hx
  unfold cRec cW at h ⊢
  rw [e 8 (by decide) (by decide), e 10 (by decide) (by decide), e 16 (by decide) (by decide), e 14 (by decide) (by decide), e 12 (by decide) (by decide), e 21 (by decide) (by decide), e 18 (by decide) (by decide), e 20 (by decide) (by decide), e 23 (by decide) (by decide)]
  exact h
def bI (b : Prop) [Decidable b] : Int := if b then 1 else 0
section CXs
variable {l : Launch} {s0 : State} {a0 : Array Value} {G : va_G} {ca : Nat → ClassId} {d : Nat} {C : Nat × Nat} {S : zS} {M : zM} {Q : Int → zM → Prop} {X : zM → Prop} {xs : List JR} {v : Nat}
theorem c_zat {a : Int} {i : Nat} (h : i < 2073) : zat M a 2073 i = M a i := zat_in (by omega) (by omega) (by decide)
theorem c_said (Γ : rt_Γ l s0 a0 G ca) (hd : 5 ≤ d) (hok : zok C) (hs : zSok S) (hs6 : S 6 = some (0, 8, [(3, 7), (3, 9), (3, 11), (3, 13), (3, 15), (3, 17), (3, 19), (3, 21), (3, 22), (3, 1), (0, 0), (0, 0), (0, 0)])) (hT : cTx M xs) (hv : v < xs.length) (hk : (xx xs v).kd = 3) {w : Nat} {wb : List Int} (hw : zstr s0 w wb) (hQ : Q (bI ((xx xs v).ws = iw wb)) M) : zm_X8_says l s0 G ca d C S v w M Q X := by
  refine z_X8_says Γ (by omega) hok hs hs6 hw ?_
  unfold zt_X8_says
  have hl := hT.2.2
  have hr := cRec_at hT hv
  rw [c_zat (by omega)]
  refine c_says Γ (by omega) hok (⟨by decide, by decide, by decide, hs 22 _ rfl, hs 23 _ rfl⟩ : zCe S 22 23 4096) (by decide) hw (hr.2.2.2.2.2.2.1 hk).wd (by omega) ?_
  refine ⟨?_, hQ⟩
  by_cases c : (xx xs v).ws = iw wb
  · rw [if_pos c]; exact Or.inr rfl
  · rw [if_neg c]; exact Or.inl rfl
theorem c_memL (Γ : rt_Γ l s0 a0 G ca) (hd : 5 ≤ d) (hok : zok C) (hs : zSok S) (hs6 : S 6 = some (0, 8, [(3, 7), (3, 9), (3, 11), (3, 13), (3, 15), (3, 17), (3, 19), (3, 21), (3, 22), (3, 1), (0, 0), (0, 0), (0, 0)])) (hT : cTx M xs) {w : Nat} {wb : List Int} (hw : zstr s0 w wb) {w0 : rt_Wd} : ∀ (c i n t : Nat), kidsL c (xs.drop i) n true → t + c ≤ 2070 → Q (oI (xFind xs (iw wb) (xKid xs c i))) M → zg_X8_member_12 l s0 G ca d C S w0 w wb (if c = 0 then -1 else (i : Int)) t M Q X := by
  have hl := hT.2.2
  intro c
  induction c with
  | zero =>
    intro i n t _ ht hQ
    refine zs_X8_member_12 Γ (by omega) hok hs hs6 hw ?_
    unfold zt_X8_member_12
    rw [w32_id (by omega) (by omega), if_pos rfl]
    exact ⟨fun c9 => by omega, fun _ => ⟨fun _ => hQ, fun c9 => absurd (by decide) c9⟩⟩
  | succ c ih =>
    intro i n t hk ht hQ
    obtain ⟨g1, g2, g3, g4, g5, g6⟩ := kidsL_step hk
    refine zs_X8_member_12 Γ (by omega) hok hs hs6 hw ?_
    unfold zt_X8_member_12
    rw [w32_id (by omega) (by omega), if_neg (Nat.succ_ne_zero c), w32_id (x := (i : Int)) (by omega) (by omega)]
    refine ⟨fun c9 => by omega, fun _ => ⟨fun c9 => by omega, fun _ => ?_⟩⟩
    have hr := cRec_at hT g1
    obtain ⟨ws, hws⟩ := Option.isSome_iff_exists.mp g5
    rw [c_zat (by omega)]
    refine c_says Γ (by omega) hok (⟨by decide, by decide, by decide, hs 22 _ rfl, hs 23 _ rfl⟩ : zCe S 22 23 4096) (by decide) hw (hr.2.2.2.2.2.2.2 ws hws).wd (by omega) ?_
    unfold xKid xFind at hQ
    rw [hws] at hQ
    by_cases ce : ws = iw wb
    · rw [if_pos (by rw [ce])] at hQ
      rw [if_pos ce]
      exact ⟨fun c9 => absurd c9 (by decide), fun _ => hQ⟩
    · rw [if_neg (fun e => ce (Option.some.inj e))] at hQ
      rw [if_neg ce]
      refine ⟨fun _ => ?_, fun c9 => absurd (by decide) c9⟩
      have := ih _ _ (t + 1) g6 (by omega) hQ
      rw [c_zat (by omega), hr.2.2.2.2.1, g4, show (t : Int) + 1 = ((t + 1 : Nat) : Int) by omega]
      by_cases c0 : c = 0
      · subst c0
        rw [if_pos rfl] at this
        rw [if_neg (by decide)]
        exact this
      · rw [if_neg c0] at this
        rw [if_pos (decide_eq_true (by omega))]
        exact this
theorem c_mem (Γ : rt_Γ l s0 a0 G ca) (hd : 5 ≤ d) (hok : zok C) (hs : zSok S) (hs6 : S 6 = some (0, 8, [(3, 7), (3, 9), (3, 11), (3, 13), (3, 15), (3, 17), (3, 19), (3, 21), (3, 22), (3, 1), (0, 0), (0, 0), (0, 0)])) (hT : cTx M xs) (hv : v < xs.length) (hk : (xx xs v).kd = 1) {w : Nat} {wb : List Int} (hw : zstr s0 w wb) (hQ : Q (oI (xMem xs v (iw wb))) M) : zm_X8_member l s0 G ca d C S v w M Q X := by
  refine z_X8_member Γ (by omega) hok hs hs6 hw ?_
  unfold zt_X8_member
  have hl := hT.2.2
  have hr := cRec_at hT hv
  obtain ⟨g1, g2, g3, g4, g5, g6, g7⟩ := jWf_at hT.2.1 hv
  have hkk := g6 (Or.inl hk)
  rw [decide_eq_true hk] at hkk
  have := c_memL (Q := Q) (X := X) (w0 := zw s0 ca C S M) Γ hd hok hs hs6 hT hw (xx xs v).len (v + 1) _ 0 hkk (by omega) hQ
  rw [c_zat (by omega), hr.2.2.2.1]
  exact this
theorem w32_bI {b : Prop} [Decidable b] : w32 (bI b) = 0 ↔ ¬ b := by
  unfold bI
  by_cases c : b
  · rw [if_pos c]
    exact ⟨fun h => absurd h (by decide), fun h => absurd c h⟩
  · rw [if_neg c]
    exact ⟨fun _ => c, fun _ => by decide⟩
theorem c_six (Γ : rt_Γ l s0 a0 G ca) (hd : 6 ≤ d) (hok : zok C) (hs : zSok S) {p : Int} (hp : zSc S p) (hs24 : S 24 = some (0, 1, [(3, 25), (3, 26), (3, 28), (3, p), (3, 6), (0, 0), (0, 0), (0, 0)])) (hs6 : S 6 = some (0, 8, [(3, 7), (3, 9), (3, 11), (3, 13), (3, 15), (3, 17), (3, 19), (3, 21), (3, 22), (3, 1), (0, 0), (0, 0), (0, 0)])) (hT : cTx M xs) (hv : v < xs.length) (hk : (xx xs v).kd = 3) (hQ : Q (oI (sSix (xx xs v).ws)) M) : zm_X1_oneOfSix l s0 G ca d C S v M Q X := by
  refine z_X1_oneOfSix Γ (by omega) hok hs hp hs24 hs6 ?_
  unfold zt_X1_oneOfSix
  unfold sSix at hQ
  intro q5 h5
  refine c_said Γ (by omega) hok hs hs6 hT hv hk h5 ⟨fun c1 => ?_, fun c1 => ?_⟩
  case refine_2 => rw [if_pos (Decidable.not_not.mp (fun h => c1 (w32_bI.mpr h)))] at hQ; exact hQ
  rw [if_neg (w32_bI.mp c1)] at hQ
  intro q20 h20
  refine c_said Γ (by omega) hok hs hs6 hT hv hk h20 ⟨fun c1 => ?_, fun c1 => ?_⟩
  case refine_2 => rw [if_pos (Decidable.not_not.mp (fun h => c1 (w32_bI.mpr h)))] at hQ; exact hQ
  rw [if_neg (w32_bI.mp c1)] at hQ
  intro q35 h35
  refine c_said Γ (by omega) hok hs hs6 hT hv hk h35 ⟨fun c1 => ?_, fun c1 => ?_⟩
  case refine_2 => rw [if_pos (Decidable.not_not.mp (fun h => c1 (w32_bI.mpr h)))] at hQ; exact hQ
  rw [if_neg (w32_bI.mp c1)] at hQ
  intro q50 h50
  refine c_said Γ (by omega) hok hs hs6 hT hv hk h50 ⟨fun c1 => ?_, fun c1 => ?_⟩
  case refine_2 => rw [if_pos (Decidable.not_not.mp (fun h => c1 (w32_bI.mpr h)))] at hQ; exact hQ
  rw [if_neg (w32_bI.mp c1)] at hQ
  intro q65 h65
  refine c_said Γ (by omega) hok hs hs6 hT hv hk h65 ⟨fun c1 => ?_, fun c1 => ?_⟩
  case refine_2 => rw [if_pos (Decidable.not_not.mp (fun h => c1 (w32_bI.mpr h)))] at hQ; exact hQ
  rw [if_neg (w32_bI.mp c1)] at hQ
  intro q80 h80
  refine c_said Γ (by omega) hok hs hs6 hT hv hk h80 ⟨fun c1 => ?_, fun c1 => ?_⟩
  case refine_2 => rw [if_pos (Decidable.not_not.mp (fun h => c1 (w32_bI.mpr h)))] at hQ; exact hQ
  rw [if_neg (w32_bI.mp c1)] at hQ
  exact hQ
theorem c_com (Γ : rt_Γ l s0 a0 G ca) (hd : 6 ≤ d) (hok : zok C) (hs : zSok S) {p : Int} (hp : zSc S p) (hs24 : S 24 = some (0, 1, [(3, 25), (3, 26), (3, 28), (3, p), (3, 6), (0, 0), (0, 0), (0, 0)])) (hs6 : S 6 = some (0, 8, [(3, 7), (3, 9), (3, 11), (3, 13), (3, 15), (3, 17), (3, 19), (3, 21), (3, 22), (3, 1), (0, 0), (0, 0), (0, 0)])) (hT : cTx M xs) (hv : v < xs.length) (hk : (xx xs v).kd = 3) (hQ : Q (oI (sCom (xx xs v).ws)) M) : zm_X1_compound l s0 G ca d C S v M Q X := by
  refine z_X1_compound Γ (by omega) hok hs hp hs24 hs6 ?_
  unfold zt_X1_compound
  unfold sCom at hQ
  intro q5 h5
  refine c_said Γ (by omega) hok hs hs6 hT hv hk h5 ⟨fun c1 => ?_, fun c1 => ?_⟩
  case refine_2 => rw [if_pos (Decidable.not_not.mp (fun h => c1 (w32_bI.mpr h)))] at hQ; exact hQ
  rw [if_neg (w32_bI.mp c1)] at hQ
  intro q20 h20
  refine c_said Γ (by omega) hok hs hs6 hT hv hk h20 ⟨fun c1 => ?_, fun c1 => ?_⟩
  case refine_2 => rw [if_pos (Decidable.not_not.mp (fun h => c1 (w32_bI.mpr h)))] at hQ; exact hQ
  rw [if_neg (w32_bI.mp c1)] at hQ
  intro q35 h35
  refine c_said Γ (by omega) hok hs hs6 hT hv hk h35 ⟨fun c1 => ?_, fun c1 => ?_⟩
  case refine_2 => rw [if_pos (Decidable.not_not.mp (fun h => c1 (w32_bI.mpr h)))] at hQ; exact hQ
  rw [if_neg (w32_bI.mp c1)] at hQ
  intro q50 h50
  refine c_said Γ (by omega) hok hs hs6 hT hv hk h50 ⟨fun c1 => ?_, fun c1 => ?_⟩
  case refine_2 => rw [if_pos (Decidable.not_not.mp (fun h => c1 (w32_bI.mpr h)))] at hQ; exact hQ
  rw [if_neg (w32_bI.mp c1)] at hQ
  intro q65 h65
  refine c_said Γ (by omega) hok hs hs6 hT hv hk h65 ⟨fun c1 => ?_, fun c1 => ?_⟩
  case refine_2 => rw [if_pos (Decidable.not_not.mp (fun h => c1 (w32_bI.mpr h)))] at hQ; exact hQ
  rw [if_neg (w32_bI.mp c1)] at hQ
  exact hQ
theorem c_namL (Γ : rt_Γ l s0 a0 G ca) (hd : 6 ≤ d) (hok : zok C) (hs : zSok S) {p : Int} (hp : zSc S p) (hs24 : S 24 = some (0, 1, [(3, 25), (3, 26), (3, 28), (3, p), (3, 6), (0, 0), (0, 0), (0, 0)])) (hs6 : S 6 = some (0, 8, [(3, 7), (3, 9), (3, 11), (3, 13), (3, 15), (3, 17), (3, 19), (3, 21), (3, 22), (3, 1), (0, 0), (0, 0), (0, 0)])) (hv : v < 2000) {L : Nat} (hL : M 18 v = L) {ws : List Int32} (hb : L + 1 + ws.length ≤ 2000) (hf : ∀ i : Nat, i < ws.length → M 23 ((L + 1 + i : Nat) : Int) = (ws.getD i 0).toInt) {w0 : rt_Wd} : ∀ r k : Nat, k + r = ws.length → Q (bI (sChr (ws.drop k) k = true)) M → zg_X1_isName_24 l s0 G ca d C S w0 p v ws.length k M Q X := by
  intro r
  induction r with
  | zero =>
    intro k hk hQ
    refine zs_X1_isName_24 Γ (by omega) hok hs hp hs24 hs6 ?_
    unfold zt_X1_isName_24
    rw [w32_id (by omega) (by omega), w32_id (by omega) (by omega)]
    refine ⟨fun _ => ?_, fun c9 => by omega⟩
    rw [List.drop_of_length_le (by omega)] at hQ
    exact hQ
  | succ r ih =>
    intro k hk hQ
    have hdr : ws.drop k = ws.getD k 0 :: ws.drop (k + 1) := by
      rw [List.getD_eq_getElem?_getD, List.getElem?_eq_getElem (show k < ws.length by omega)]
      exact List.drop_eq_getElem_cons (by omega)
    rw [hdr] at hQ
    unfold sChr at hQ
    refine zs_X1_isName_24 Γ (by omega) hok hs hp hs24 hs6 ?_
    unfold zt_X1_isName_24
    have ez : zat M 23 4096 (zat M 18 2073 v + 1 + k) = (ws.getD k 0).toInt := by
      rw [c_zat (by omega), hL, show (L : Int) + 1 + k = ((L + 1 + k : Nat) : Int) by omega, zat_in (by omega) (by omega) (by decide), hf k (by omega)]
    have e1 : (k : Int) + 1 = ((k + 1 : Nat) : Int) := by omega
    rw [ez]
    generalize hc : (ws.getD k 0).toInt = b at hQ
    have hbb := toI_b (ws.getD k 0)
    rw [hc] at hbb
    rw [w32_id (x := (ws.length : Int)) (by omega) (by omega), w32_id (x := (k : Int)) (by omega) (by omega), w32_id (x := b) hbb.1 hbb.2]
    have yes : sLet b → zg_X1_isName_24 l s0 G ca d C S w0 p v ws.length ((k : Int) + 1) M Q X := fun h => by
      rw [e1]
      refine ih (k + 1) (by omega) ?_
      rw [decide_eq_true h, Bool.true_or, Bool.true_and] at hQ
      exact hQ
    have yesd : (48 ≤ b ∧ b ≤ 57) → 0 < k → zg_X1_isName_24 l s0 G ca d C S w0 p v ws.length ((k : Int) + 1) M Q X := fun h h2 => by
      rw [e1]
      refine ih (k + 1) (by omega) ?_
      rw [decide_eq_true h, decide_eq_true h2, Bool.true_and, Bool.or_true, Bool.true_and] at hQ
      exact hQ
    have no : ¬ sLet b → ¬ (0 < k ∧ 48 ≤ b ∧ b ≤ 57) → Q 0 M := fun h h2 => by
      have e : (decide (sLet b) || (decide (0 < k) && decide (48 ≤ b ∧ b ≤ 57))) = false := by
        rw [decide_eq_false h, Bool.false_or, ← Bool.decide_and]
        exact decide_eq_false h2
      rw [e, Bool.false_and] at hQ
      exact hQ
    have t114 : ∀ k0 v5 : Int, (k0 = 0 ∨ k0 = 1) → (v5 = 0 ∨ v5 = 1) → (k0 = 1 ↔ sLet b) → (v5 = 1 ↔ 48 ≤ b ∧ b ≤ 57) → zt_X1_isName_114 l s0 G ca d C S w0 p v ws.length k v5 k0 M Q X := by
      intro k0 v5 h0 h5 g0 g5
      unfold zt_X1_isName_114
      rw [w32_id (x := k0) (by omega) (by omega), w32_id (x := v5) (by omega) (by omega), w32_id (x := (k : Int)) (by omega) (by omega)]
      refine ⟨fun c1 => ⟨fun c2 => no (fun h => by have := g0.mpr h; omega) (fun h => by have := g5.mpr h.2; omega), fun c2 => ⟨fun c3 => yesd (g5.mp (by omega)) (by omega), fun c3 => no (fun h => by have := g0.mpr h; omega) (fun h => by omega)⟩⟩, fun c1 => yes (g0.mp (by omega))⟩
    have t102 : ∀ v5 : Int, (v5 = 0 ∨ v5 = 1) → (v5 = 1 ↔ 48 ≤ b ∧ b ≤ 57) → (¬ (97 ≤ b ∧ b ≤ 122)) → (¬ (65 ≤ b ∧ b ≤ 90)) → zt_X1_isName_102 l s0 G ca d C S w0 p v ws.length k b v5 M Q X := by
      intro v5 h5 g5 n1 n2
      unfold zt_X1_isName_102 zt_X1_isName_109
      rw [w32_id (x := b) hbb.1 hbb.2]
      exact ⟨fun c1 => t114 1 v5 (Or.inr rfl) h5 ⟨fun _ => Or.inr (Or.inr c1), fun _ => rfl⟩ g5, fun c1 => t114 0 v5 (Or.inl rfl) h5 ⟨fun h => absurd h (by decide), fun h => by omega⟩ g5⟩
    have t88 : ∀ v5 : Int, (v5 = 0 ∨ v5 = 1) → (v5 = 1 ↔ 48 ≤ b ∧ b ≤ 57) → (¬ (97 ≤ b ∧ b ≤ 122)) → zt_X1_isName_88 l s0 G ca d C S w0 p v ws.length k b v5 M Q X := by
      intro v5 h5 g5 n1
      unfold zt_X1_isName_88
      rw [w32_id (x := b) hbb.1 hbb.2]
      refine ⟨fun c1 => t102 v5 h5 g5 n1 (by omega), fun c1 => ⟨fun c2 => ?_, fun c2 => t102 v5 h5 g5 n1 (by omega)⟩⟩
      unfold zt_X1_isName_109
      exact t114 1 v5 (Or.inr rfl) h5 ⟨fun _ => Or.inr (Or.inl ⟨by omega, by omega⟩), fun _ => rfl⟩ g5
    have t72 : ∀ v5 : Int, (v5 = 0 ∨ v5 = 1) → (v5 = 1 ↔ 48 ≤ b ∧ b ≤ 57) → zt_X1_isName_72 l s0 G ca d C S w0 p v ws.length k b v5 M Q X := by
      intro v5 h5 g5
      unfold zt_X1_isName_72
      rw [w32_id (x := b) hbb.1 hbb.2]
      refine ⟨fun c1 => t88 v5 h5 g5 (by omega), fun c1 => ⟨fun c2 => ?_, fun c2 => t88 v5 h5 g5 (by omega)⟩⟩
      unfold zt_X1_isName_109
      exact t114 1 v5 (Or.inr rfl) h5 ⟨fun _ => Or.inl ⟨by omega, by omega⟩, fun _ => rfl⟩ g5
    refine ⟨fun c9 => by omega, fun _ => ⟨fun c1 => ?_, fun c1 => ⟨fun c2 => ?_, fun c2 => ?_⟩⟩⟩
    · unfold zt_X1_isName_71
      exact t72 0 (Or.inl rfl) ⟨fun h => absurd h (by decide), fun h => by omega⟩
    · unfold zt_X1_isName_71
      exact t72 0 (Or.inl rfl) ⟨fun h => absurd h (by decide), fun h => by omega⟩
    · exact t72 1 (Or.inr rfl) ⟨fun _ => ⟨by omega, by omega⟩, fun _ => rfl⟩
theorem c_nam (Γ : rt_Γ l s0 a0 G ca) (hd : 6 ≤ d) (hok : zok C) (hs : zSok S) {p : Int} (hp : zSc S p) (hs24 : S 24 = some (0, 1, [(3, 25), (3, 26), (3, 28), (3, p), (3, 6), (0, 0), (0, 0), (0, 0)])) (hs6 : S 6 = some (0, 8, [(3, 7), (3, 9), (3, 11), (3, 13), (3, 15), (3, 17), (3, 19), (3, 21), (3, 22), (3, 1), (0, 0), (0, 0), (0, 0)])) (hT : cTx M xs) (hv : v < xs.length) (hk : (xx xs v).kd = 3) (hQ : Q (bI (sNam (xx xs v).ws = true)) M) : zm_X1_isName l s0 G ca d C S v M Q X := by
  refine z_X1_isName Γ (by omega) hok hs hp hs24 hs6 ?_
  unfold zt_X1_isName
  have hl := hT.2.2
  obtain ⟨L, h1, h2, h3, h4⟩ := (cRec_at hT hv).2.2.2.2.2.2.1 hk
  rw [c_zat (by omega), h1, zat_in (by omega) (by omega) (by decide), h3, w32_id (by omega) (by omega)]
  unfold sNam at hQ
  refine ⟨fun c1 => ?_, fun c1 => ⟨fun c2 => ?_, fun c2 => ?_⟩⟩
  · rw [decide_eq_false (by omega), Bool.false_and] at hQ; exact hQ
  · refine c_namL Γ hd hok hs hp hs24 hs6 (by omega) h1 (by omega) h4 _ 0 (Nat.zero_add _) ?_
    rw [decide_eq_true (by omega), Bool.true_and] at hQ
    exact hQ
  · rw [decide_eq_false (by omega), Bool.false_and] at hQ; exact hQ
end CXs
