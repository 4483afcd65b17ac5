/-! ===== the class reads a text: from the old layer to z ===== -/
def zTb (M : zM) (vals pos wrong : Int) (k b nx fi pa wo ke nu le : Int → Int) (lu : Int) : zM := fun a =>
  if a = 6 then (fun j => if j = 10 then vals else if j = 11 then pos else if j = 12 then wrong else M 6 j) else if a = 8 then k else if a = 10 then b else if a = 12 then nx else if a = 14 then fi else if a = 16 then pa else if a = 18 then wo else if a = 20 then ke else if a = 21 then nu else if a = 23 then le else if a = 22 then (fun j => if j = 1 then lu else M 22 j) else M a
def zI (f : Nat → Int32) : Int → Int := fun j => (f j.toNat).toInt
def zI6 (f : Nat → Int64) : Int → Int := fun j => (f j.toNat).toInt
/-- the seven tables' own counts are 0 -/
def c0 (M : zM) : Prop := M 7 1 = 0 ∧ M 9 1 = 0 ∧ M 11 1 = 0 ∧ M 13 1 = 0 ∧ M 15 1 = 0 ∧ M 17 1 = 0 ∧ M 19 1 = 0
theorem zTb_w {s0 : State} {ca : Nat → ClassId} {C : Nat × Nat} {S : zS} {M : zM} (hs : zSok S) (hs6 : S 6 = some (0, 8, [(3, 7), (3, 9), (3, 11), (3, 13), (3, 15), (3, 17), (3, 19), (3, 21), (3, 22), (3, 1), (0, 0), (0, 0), (0, 0)])) (h0 : c0 M) (vals pos wrong : Int) (k b nx fi pa wo ke nu le : Int → Int) (lu : Int) :
    rt_bk (zw s0 ca C S M) 6 (tx_L s0 ca 6 (rt_r s0 1) (Int32.ofInt vals) (Int32.ofInt pos) (Int32.ofInt wrong) (fun j => Int32.ofInt (k j)) (fun j => Int32.ofInt (b j)) (fun j => Int32.ofInt (nx j)) (fun j => Int32.ofInt (fi j)) (fun j => Int32.ofInt (pa j)) (fun j => Int32.ofInt (wo j)) (fun j => Int32.ofInt (ke j)) (fun j => Int64.ofInt (nu j)) (fun j => Int32.ofInt (le j)) (Int32.ofInt lu)) = zw s0 ca C S (zTb M vals pos wrong k b nx fi pa wo ke nu le lu) := by
  obtain ⟨z1, z2, z3, z4, z5, z6, z7⟩ := h0
  refine Prod.ext rfl (Prod.ext rfl (funext fun j => ?_))
  show (if 6 ≤ j ∧ j < 6 + 18 then (tx_L s0 ca 6 _ _ _ _ _ _ _ _ _ _ _ _ _ _)[j - 6]? else (S (j : Int)).map (zcell s0 ca (M (j : Int)))) = (S (j : Int)).map (zcell s0 ca (zTb M vals pos wrong k b nx fi pa wo ke nu le lu (j : Int)))
  by_cases hj : 6 ≤ j ∧ j < 6 + 18
  · rw [if_pos hj]
    have hc : j = 6 ∨ j = 7 ∨ j = 8 ∨ j = 9 ∨ j = 10 ∨ j = 11 ∨ j = 12 ∨ j = 13 ∨ j = 14 ∨ j = 15 ∨ j = 16 ∨ j = 17 ∨ j = 18 ∨ j = 19 ∨ j = 20 ∨ j = 21 ∨ j = 22 ∨ j = 23 := by omega
    have cel : ∀ (c a : Int), S c = some (0, 0, [(3, a), (0, 0)]) → 0 ≤ a → M c 1 = 0 → zTb M vals pos wrong k b nx fi pa wo ke nu le lu c = M c → some (Sum.inr (0, [rt_r s0 a.toNat, .int 0])) = (S c).map (zcell s0 ca (zTb M vals pos wrong k b nx fi pa wo ke nu le lu c)) := fun c a h1 h2 h3 h4 => by
      rw [h1, h4]
      show some (Sum.inr (0, [rt_r s0 a.toNat, .int 0])) = some (Sum.inr (0, [zv s0 2 a, zv s0 0 (M c 1)]))
      rw [h3, zv_ref h2]
      rfl
    rcases hc with rfl | rfl | rfl | rfl | rfl | rfl | rfl | rfl | rfl | rfl | rfl | rfl | rfl | rfl | rfl | rfl | rfl | rfl
    · show _ = (S 6).map _
      rw [hs6]
      rfl
    · exact cel 7 8 (hs 7 _ rfl) (by decide) z1 rfl
    · show _ = (S 8).map _
      rw [show S 8 = some (1, 2073, []) from hs 8 _ rfl]
      rfl
    · exact cel 9 10 (hs 9 _ rfl) (by decide) z2 rfl
    · show _ = (S 10).map _
      rw [show S 10 = some (1, 2073, []) from hs 10 _ rfl]
      rfl
    · exact cel 11 12 (hs 11 _ rfl) (by decide) z3 rfl
    · show _ = (S 12).map _
      rw [show S 12 = some (1, 2073, []) from hs 12 _ rfl]
      rfl
    · exact cel 13 14 (hs 13 _ rfl) (by decide) z4 rfl
    · show _ = (S 14).map _
      rw [show S 14 = some (1, 2073, []) from hs 14 _ rfl]
      rfl
    · exact cel 15 16 (hs 15 _ rfl) (by decide) z5 rfl
    · show _ = (S 16).map _
      rw [show S 16 = some (1, 2073, []) from hs 16 _ rfl]
      rfl
    · exact cel 17 18 (hs 17 _ rfl) (by decide) z6 rfl
    · show _ = (S 18).map _
      rw [show S 18 = some (1, 2073, []) from hs 18 _ rfl]
      rfl
    · exact cel 19 20 (hs 19 _ rfl) (by decide) z7 rfl
    · show _ = (S 20).map _
      rw [show S 20 = some (1, 2073, []) from hs 20 _ rfl]
      rfl
    · show _ = (S 21).map _
      rw [show S 21 = some (3, 2073, []) from hs 21 _ rfl]
      rfl
    · show _ = (S 22).map _
      rw [show S 22 = some (0, 0, [(3, 23), (0, 0)]) from hs 22 _ rfl]
      rfl
    · show _ = (S 23).map _
      rw [show S 23 = some (1, 4096, []) from hs 23 _ rfl]
      rfl
  · rw [if_neg hj]
    have e : zTb M vals pos wrong k b nx fi pa wo ke nu le lu (j : Int) = M (j : Int) := by
      unfold zTb
      rw [if_neg (by omega), if_neg (by omega), if_neg (by omega), if_neg (by omega), if_neg (by omega), if_neg (by omega), if_neg (by omega), if_neg (by omega), if_neg (by omega), if_neg (by omega), if_neg (by omega)]
    rw [e]
theorem zTb_id (M : zM) : zTb M (M 6 10) (M 6 11) (M 6 12) (M 8) (M 10) (M 12) (M 14) (M 16) (M 18) (M 20) (M 21) (M 23) (M 22 1) = M := by
  funext a
  unfold zTb
  by_cases h6 : a = 6
  · subst h6
    rw [if_pos rfl]
    funext j
    by_cases j1 : j = 10
    · rw [if_pos j1, j1]
    · by_cases j2 : j = 11
      · rw [if_neg j1, if_pos j2, j2]
      · by_cases j3 : j = 12
        · rw [if_neg j1, if_neg j2, if_pos j3, j3]
        · rw [if_neg j1, if_neg j2, if_neg j3]
  rw [if_neg h6]
  by_cases h8 : a = 8
  · rw [if_pos h8, h8]
  rw [if_neg h8]
  by_cases h10 : a = 10
  · rw [if_pos h10, h10]
  rw [if_neg h10]
  by_cases h12 : a = 12
  · rw [if_pos h12, h12]
  rw [if_neg h12]
  by_cases h14 : a = 14
  · rw [if_pos h14, h14]
  rw [if_neg h14]
  by_cases h16 : a = 16
  · rw [if_pos h16, h16]
  rw [if_neg h16]
  by_cases h18 : a = 18
  · rw [if_pos h18, h18]
  rw [if_neg h18]
  by_cases h20 : a = 20
  · rw [if_pos h20, h20]
  rw [if_neg h20]
  by_cases h21 : a = 21
  · rw [if_pos h21, h21]
  rw [if_neg h21]
  by_cases h23 : a = 23
  · rw [if_pos h23, h23]
  rw [if_neg h23]
  by_cases h22 : a = 22
  · rw [if_pos h22, h22]
    funext j
    by_cases j1 : j = 1
    · rw [if_pos j1, j1]
    · rw [if_neg j1]
  rw [if_neg h22]
theorem zI_of (f : Nat → Int32) : (fun j : Nat => Int32.ofInt (zI f (j : Int))) = f := by
  funext j
  unfold zI
  rw [Int.toNat_natCast, Int32.ofInt_toInt]
theorem zI6_of (f : Nat → Int64) : (fun j : Nat => Int64.ofInt (zI6 f (j : Int))) = f := by
  funext j
  unfold zI6
  rw [Int.toNat_natCast, Int64.ofInt_toInt]
/-- a word of the class's letters -/
def cW (M : zM) (lu : Nat) (x : Int) (ws : List Int32) : Prop := ∃ L : Nat, x = L ∧ L + 1 + ws.length ≤ lu ∧ M 23 L = ws.length ∧ ∀ i : Nat, i < ws.length → M 23 ((L + 1 + i : Nat) : Int) = (ws.getD i 0).toInt
def cRec (M : zM) (lu : Nat) (x : JR) (j : Nat) : Prop :=
  M 8 j = x.kd ∧ M 10 j = x.bg ∧ M 16 j = x.len ∧ M 14 j = (if x.len = 0 then -1 else ((j + 1 : Nat) : Int)) ∧ M 12 j = (if x.more = true then ((j + x.sz : Nat) : Int) else -1) ∧
  (x.kd = 4 → M 21 j = x.num.toInt) ∧ (x.kd = 3 → cW M lu (M 18 j) x.ws) ∧ ∀ ws : List Int32, x.kw = some ws → cW M lu (M 20 j) ws
/-- the class's rows say the values xs -/
def cRep (M : zM) (lu : Nat) (xs : List JR) : Prop := ∀ (i : Nat) (x : JR), xs[i]? = some x → cRec M lu x i
theorem nI_I {n : Nat} (h : n < 2 ^ 31) : (nI n).toInt = (n : Int) := nI_toInt h
theorem cW_of {M : zM} {le : Nat → Int32} (hle : ∀ j : Nat, M 23 j = (le j).toInt) {lu : Nat} (hlu : lu < 5000) {x : Int32} {ws : List Int32} (h : jIsW le lu x ws) : cW M lu x.toInt ws := by
  obtain ⟨L, rfl, h2, h3, h4⟩ := h
  refine ⟨L, nI_I (by omega), h2, ?_, fun i hi => ?_⟩
  · rw [hle, h3, nI_I (by omega)]
  · rw [hle, h4 i hi]
theorem cRep_of {M : zM} {k b nx fi pa wo ke : Nat → Int32} {nu : Nat → Int64} {le : Nat → Int32} {lu : Nat} {xs : List JR} (hlu : lu < 5000) (hb : ∀ (i : Nat) (x : JR), xs[i]? = some x → i < 5000 ∧ x.kd < 10 ∧ x.bg < 5000 ∧ x.len < 5000 ∧ i + x.sz < 10000) (h : jRep k b nx fi pa wo ke nu le lu xs 0)
    (ek : ∀ j : Nat, M 8 j = (k j).toInt) (eb : ∀ j : Nat, M 10 j = (b j).toInt) (enx : ∀ j : Nat, M 12 j = (nx j).toInt) (efi : ∀ j : Nat, M 14 j = (fi j).toInt) (epa : ∀ j : Nat, M 16 j = (pa j).toInt) (ewo : ∀ j : Nat, M 18 j = (wo j).toInt) (eke : ∀ j : Nat, M 20 j = (ke j).toInt) (enu : ∀ j : Nat, M 21 j = (nu j).toInt) (ele : ∀ j : Nat, M 23 j = (le j).toInt) : cRep M lu xs := by
  intro i x hx
  obtain ⟨b1, b2, b3, b4, b5⟩ := hb i x hx
  obtain ⟨h1, h2, h3, h4, h5, h6, h7, h8⟩ := h i x hx
  rw [Nat.zero_add] at h1 h2 h3 h4 h5 h6 h7 h8
  refine ⟨by rw [ek, h1, nI_I (by omega)], by rw [eb, h2, nI_I (by omega)], by rw [epa, h3, nI_I (by omega)], ?_, ?_, fun c => by rw [enu, h6 c], fun c => by rw [ewo]; exact cW_of ele hlu (h7 c), fun ws hw => by rw [eke]; exact cW_of ele hlu (h8 ws hw)⟩
  · rw [efi, h4]
    by_cases c : x.len = 0
    · rw [if_pos c, if_pos c]; rfl
    · rw [if_neg c, if_neg c, nI_I (by omega)]
  · rw [enx, h5]
    by_cases c : x.more = true
    · rw [if_pos c, if_pos c, nI_I (by omega)]
    · rw [if_neg c, if_neg c]; rfl
