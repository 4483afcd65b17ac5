/-! ===== numbers of seven bits each: arithmetic ===== -/
def vN (v : Int) : Nat := (Int64.ofInt v).toUInt64.toNat
theorem vN_lt (v : Int) : vN v < 18446744073709551616 := UInt64.toNat_lt _
theorem vN_eq (v : Int) : (vN v : Int) = v % 18446744073709551616 := by
  unfold vN
  have : (Int64.ofInt v).toUInt64.toNat = (BitVec.ofInt 64 v).toNat := rfl
  rw [this, BitVec.toNat_ofInt]
  omega
theorem vN_w {v w : Int} (h : vN v = vN w) : w64 v = w64 w := by
  have h1 := vN_eq v
  have h2 := vN_eq w
  unfold w64
  rw [Int.bmod_def, Int.bmod_def]
  omega
theorem vN_shr7 (v : Int) : vN (zushrL v 7) = vN v / 128 := by
  unfold vN zushrL
  rw [Int64.ofInt_toInt]
  show (((Int64.ofInt v).toUInt64 >>> ((7 : UInt64)))).toNat = _
  rw [UInt64.toNat_shiftRight]
  show _ >>> 7 = _
  rw [Nat.shiftRight_eq_div_pow]
theorem vN_shr1 (v : Int) : vN (zushrL v 1) = vN v / 2 := by
  unfold vN zushrL
  rw [Int64.ofInt_toInt]
  show (((Int64.ofInt v).toUInt64 >>> ((1 : UInt64)))).toNat = _
  rw [UInt64.toNat_shiftRight]
  show _ >>> 1 = _
  rw [Nat.shiftRight_eq_div_pow]
theorem zushr_w0 (v : Int) : w64 (zushrL v 7) = 0 ↔ vN v < 128 := by
  have h := vN_shr7 v
  have h1 := vN_eq (zushrL v 7)
  have h2 := vN_lt v
  unfold w64
  rw [Int.bmod_def]
  omega
theorem vN_and127 (v : Int) : zandL v 127 = ((vN v % 128 : Nat) : Int) := by
  have : vN (zandL v 127) = vN v % 128 := by
    unfold vN zandL
    rw [Int64.ofInt_toInt]
    show ((Int64.ofInt v).toUInt64 &&& (127 : UInt64)).toNat = _
    rw [UInt64.toNat_and]
    show _ &&& 127 = _
    exact Nat.and_two_pow_sub_one_eq_mod _ 7
  have h1 := vN_eq (zandL v 127)
  have hb : -9223372036854775808 ≤ zandL v 127 ∧ zandL v 127 < 9223372036854775808 := ⟨Int64.le_toInt _, Int64.toInt_lt _⟩
  omega
theorem zor128 {b : Nat} (h : b < 128) : zor 128 (b : Int) = ((b + 128 : Nat) : Int) := by
  unfold zor
  have : ∀ b : Fin 128, (Int32.ofInt 128 ||| Int32.ofInt (b.1 : Int)).toInt = ((b.1 + 128 : Nat) : Int) := by decide
  exact this ⟨b, h⟩
theorem zor128' {b : Nat} (h : b < 128) : zor (b : Int) 128 = ((b + 128 : Nat) : Int) := by
  have : ∀ b : Fin 128, (Int32.ofInt (b.1 : Int) ||| Int32.ofInt 128).toInt = ((b.1 + 128 : Nat) : Int) := by decide
  exact this ⟨b, h⟩
theorem zor0 {b : Nat} (h : b < 128) : zor 0 (b : Int) = (b : Int) := by
  have : ∀ b : Fin 128, (Int32.ofInt 0 ||| Int32.ofInt (b.1 : Int)).toInt = (b.1 : Int) := by decide
  exact this ⟨b, h⟩
theorem zor0' {b : Nat} (h : b < 128) : zor (b : Int) 0 = (b : Int) := by
  have : ∀ b : Fin 128, zor (b.1 : Int) 0 = (b.1 : Int) := by decide
  exact this ⟨b, h⟩
/-- zigzag -/
def zz (x : Int) : Nat := if 0 ≤ x then (2 * x).toNat else (-2 * x - 1).toNat
theorem shl1 (v : Int) : vN (zshlL v 1) = 2 * vN v % 18446744073709551616 := by
  unfold vN zshlL
  rw [Int64.ofInt_toInt]
  show (Int64.ofInt v <<< (1 : Int64)).toUInt64.toNat = _
  show ((Int64.ofInt v).toUInt64 <<< (1 : UInt64)).toNat = _
  rw [UInt64.toNat_shiftLeft]
  show _ <<< 1 % _ = _
  rw [Nat.shiftLeft_eq]
  omega
theorem shr63 (v : Int) : zshrL v 63 = if w64 v < 0 then -1 else 0 := by
  unfold zshrL
  show (Int64.ofInt v >>> (63 : Int64)).toInt = _
  have h : (Int64.ofInt v >>> (63 : Int64)).toInt = (Int64.ofInt v).toInt >>> 63 := by
    show ((Int64.ofInt v).toBitVec.sshiftRight 63).toInt = _
    rw [BitVec.toInt_sshiftRight]
    rfl
  have h2 : (Int64.ofInt v).toInt = w64 v := by
    rw [Int64.toInt_ofInt]; rfl
  rw [h, h2]
  have hb : -9223372036854775808 ≤ w64 v ∧ w64 v < 9223372036854775808 := by
    rw [← h2]; exact ⟨Int64.le_toInt _, Int64.toInt_lt _⟩
  rw [Int.shiftRight_eq_div_pow]
  split <;> omega
theorem vN_zz (v : Int) : vN (zxorL (zshlL v 1) (zshrL v 63)) = zz (w64 v) := by
  have e1 := shl1 v
  have e2 := shr63 v
  have h1 := vN_eq v
  have hb : w64 v = v.bmod 18446744073709551616 := rfl
  rw [Int.bmod_def] at hb
  by_cases c : w64 v < 0
  · rw [if_pos c] at e2
    have : vN (zxorL (zshlL v 1) (zshrL v 63)) = 18446744073709551615 - vN (zshlL v 1) := by
      rw [e2]
      generalize zshlL v 1 = y
      unfold vN zxorL
      rw [Int64.ofInt_toInt]
      show ((Int64.ofInt y) ^^^ (-1 : Int64)).toBitVec.toNat = _
      show ((Int64.ofInt y).toBitVec ^^^ (BitVec.allOnes 64)).toNat = _
      rw [BitVec.xor_allOnes, BitVec.toNat_not]
      rfl
    rw [this, e1]
    unfold zz
    rw [if_neg (by omega)]
    omega
  · rw [if_neg c] at e2
    have : vN (zxorL (zshlL v 1) (zshrL v 63)) = vN (zshlL v 1) := by
      rw [e2]
      generalize zshlL v 1 = y
      unfold vN zxorL
      rw [Int64.ofInt_toInt]
      show ((Int64.ofInt y) ^^^ (0 : Int64)).toBitVec.toNat = _
      show ((Int64.ofInt y).toBitVec ^^^ (0#64)).toNat = _
      rw [BitVec.xor_zero]
      rfl
    rw [this, e1]
    unfold zz
    rw [if_pos (by omega)]
    omega
theorem unzz (u : Int) : zxorL (zushrL u 1) (-(zandL u 1)) = if vN u % 2 = 0 then ((vN u / 2 : Nat) : Int) else -((vN u / 2 : Nat) : Int) - 1 := by
  have ha : zandL u 1 = ((vN u % 2 : Nat) : Int) := by
    have : vN (zandL u 1) = vN u % 2 := by
      unfold vN zandL
      rw [Int64.ofInt_toInt]
      show ((Int64.ofInt u).toUInt64 &&& (1 : UInt64)).toNat = _
      rw [UInt64.toNat_and]
      show _ &&& 1 = _
      exact Nat.and_one_is_mod _
    have h1 := vN_eq (zandL u 1)
    have hb : -9223372036854775808 ≤ zandL u 1 ∧ zandL u 1 < 9223372036854775808 := ⟨Int64.le_toInt _, Int64.toInt_lt _⟩
    omega
  have hs := vN_shr1 u
  have hlt := vN_lt u
  have hb : ∀ a b : Int, -9223372036854775808 ≤ zxorL a b ∧ zxorL a b < 9223372036854775808 := fun a b => ⟨Int64.le_toInt _, Int64.toInt_lt _⟩
  by_cases c : vN u % 2 = 0
  · rw [if_pos c, ha, c]
    have : vN (zxorL (zushrL u 1) (-((0 : Nat) : Int))) = vN (zushrL u 1) := by
      generalize zushrL u 1 = y
      unfold vN zxorL
      rw [Int64.ofInt_toInt]
      show ((Int64.ofInt y).toBitVec ^^^ (0#64)).toNat = _
      rw [BitVec.xor_zero]
      rfl
    have h1 := vN_eq (zxorL (zushrL u 1) (-((0 : Nat) : Int)))
    have := hb (zushrL u 1) (-((0 : Nat) : Int))
    omega
  · rw [if_neg c, ha, show vN u % 2 = 1 by omega]
    have : vN (zxorL (zushrL u 1) (-((1 : Nat) : Int))) = 18446744073709551615 - vN (zushrL u 1) := by
      generalize zushrL u 1 = y
      unfold vN zxorL
      rw [Int64.ofInt_toInt]
      show ((Int64.ofInt y).toBitVec ^^^ (BitVec.allOnes 64)).toNat = _
      rw [BitVec.xor_allOnes, BitVec.toNat_not]
      rfl
    have h1 := vN_eq (zxorL (zushrL u 1) (-((1 : Nat) : Int)))
    have := hb (zushrL u 1) (-((1 : Nat) : Int))
    omega

theorem ten {k : Nat} (hk : k < 10) : k = 0 ∨ k = 1 ∨ k = 2 ∨ k = 3 ∨ k = 4 ∨ k = 5 ∨ k = 6 ∨ k = 7 ∨ k = 8 ∨ k = 9 := by omega
theorem vN_shl (v : Int) {k : Nat} (hk : k < 10) : vN (zshlL v (7 * (k : Int))) = vN v * 2 ^ (7 * k) % 18446744073709551616 := by
  unfold zshlL
  have e : vN ((Int64.ofInt v <<< ((Int32.ofInt (7 * (k : Int))).toInt64 &&& 63)).toInt) = (Int64.ofInt v <<< ((Int32.ofInt (7 * (k : Int))).toInt64 &&& 63)).toUInt64.toNat := by
    unfold vN
    rw [Int64.ofInt_toInt]
  rw [e]
  rcases ten hk with h | h | h | h | h | h | h | h | h | h <;> subst h
  · show ((Int64.ofInt v).toUInt64 <<< (0 : UInt64)).toNat = _
    rw [UInt64.toNat_shiftLeft]
    show vN v <<< 0 % _ = _
    rw [Nat.shiftLeft_eq]
  · show ((Int64.ofInt v).toUInt64 <<< (7 : UInt64)).toNat = _
    rw [UInt64.toNat_shiftLeft]
    show vN v <<< 7 % _ = _
    rw [Nat.shiftLeft_eq]
  · show ((Int64.ofInt v).toUInt64 <<< (14 : UInt64)).toNat = _
    rw [UInt64.toNat_shiftLeft]
    show vN v <<< 14 % _ = _
    rw [Nat.shiftLeft_eq]
  · show ((Int64.ofInt v).toUInt64 <<< (21 : UInt64)).toNat = _
    rw [UInt64.toNat_shiftLeft]
    show vN v <<< 21 % _ = _
    rw [Nat.shiftLeft_eq]
  · show ((Int64.ofInt v).toUInt64 <<< (28 : UInt64)).toNat = _
    rw [UInt64.toNat_shiftLeft]
    show vN v <<< 28 % _ = _
    rw [Nat.shiftLeft_eq]
  · show ((Int64.ofInt v).toUInt64 <<< (35 : UInt64)).toNat = _
    rw [UInt64.toNat_shiftLeft]
    show vN v <<< 35 % _ = _
    rw [Nat.shiftLeft_eq]
  · show ((Int64.ofInt v).toUInt64 <<< (42 : UInt64)).toNat = _
    rw [UInt64.toNat_shiftLeft]
    show vN v <<< 42 % _ = _
    rw [Nat.shiftLeft_eq]
  · show ((Int64.ofInt v).toUInt64 <<< (49 : UInt64)).toNat = _
    rw [UInt64.toNat_shiftLeft]
    show vN v <<< 49 % _ = _
    rw [Nat.shiftLeft_eq]
  · show ((Int64.ofInt v).toUInt64 <<< (56 : UInt64)).toNat = _
    rw [UInt64.toNat_shiftLeft]
    show vN v <<< 56 % _ = _
    rw [Nat.shiftLeft_eq]
  · show ((Int64.ofInt v).toUInt64 <<< (63 : UInt64)).toNat = _
    rw [UInt64.toNat_shiftLeft]
    show vN v <<< 63 % _ = _
    rw [Nat.shiftLeft_eq]
theorem vN_nat {b : Nat} (h : b < 18446744073709551616) : vN (b : Int) = b := by
  have := vN_eq (b : Int)
  omega
/-- a group of seven bits more -/
theorem vN_put {u : Int} {b k : Nat} (hk : k < 10) (hb : b < 128) (hu : vN u < 2 ^ (7 * k)) (h9 : k = 9 → b ≤ 1) : vN (zorL u (zshlL b (7 * (k : Int)))) = vN u + b * 2 ^ (7 * k) := by
  have hs := vN_shl (b : Int) hk
  rw [vN_nat (by omega)] at hs
  have hlt : b * 2 ^ (7 * k) < 18446744073709551616 := by
    rcases ten hk with h | h | h | h | h | h | h | h | h | h <;> subst h <;> simp only [Nat.reduceMul, Nat.reducePow] <;> omega
  rw [Nat.mod_eq_of_lt hlt] at hs
  have e : vN (zorL u (zshlL b (7 * (k : Int)))) = vN u ||| vN (zshlL b (7 * (k : Int))) := by
    generalize zshlL b (7 * (k : Int)) = y
    unfold vN zorL
    rw [Int64.ofInt_toInt]
    show ((Int64.ofInt u).toUInt64 ||| (Int64.ofInt y).toUInt64).toNat = _
    rw [UInt64.toNat_or]
  rw [e, hs, Nat.or_comm, ← Nat.shiftLeft_eq, ← Nat.shiftLeft_add_eq_or_of_lt hu, Nat.add_comm]
theorem zand127 {b : Nat} (h : b < 256) : zand (b : Int) 127 = ((b % 128 : Nat) : Int) := by
  have e : zand (b : Int) 127 = ((Int32.ofInt (b : Int)).toUInt32 &&& (127 : UInt32)).toInt32.toInt := rfl
  have h1 : ((Int32.ofInt (b : Int)).toUInt32 &&& (127 : UInt32)).toNat = b % 128 := by
    rw [UInt32.toNat_and]
    show (Int32.ofInt (b : Int)).toUInt32.toNat &&& 127 = _
    have : (Int32.ofInt (b : Int)).toUInt32.toNat = b := by
      show (BitVec.ofInt 32 (b : Int)).toNat = b
      rw [BitVec.toNat_ofInt]
      omega
    rw [this]
    exact Nat.and_two_pow_sub_one_eq_mod _ 7
  rw [e]
  generalize (Int32.ofInt (b : Int)).toUInt32 &&& (127 : UInt32) = y at h1
  show y.toBitVec.toInt = _
  have h2 : y.toBitVec.toNat = b % 128 := h1
  rw [BitVec.toInt_eq_toNat_of_lt (by omega), h2]
/-- the bytes of an unsigned number, seven bits each -/
def uB : Nat → Nat → List Nat
  | 0, _ => []
  | m + 1, u => if u < 128 then [u] else (u % 128 + 128) :: uB m (u / 128)
def vB (x : Int) : List Nat := uB 10 (zz x)
theorem uB_len : ∀ {m u : Nat}, (uB m u).length ≤ m := by
  intro m
  induction m with
  | zero => intro u; exact Nat.le_refl _
  | succ m ih =>
    intro u
    unfold uB
    split
    · exact Nat.succ_le_succ (Nat.zero_le _)
    · exact Nat.succ_le_succ ih
theorem uB_pos {m u : Nat} : 1 ≤ (uB (m + 1) u).length := by
  unfold uB
  split <;> exact Nat.succ_le_succ (Nat.zero_le _)
theorem uB_lt : ∀ {m u b : Nat}, b ∈ uB m u → b < 256 := by
  intro m
  induction m with
  | zero => intro u b h; exact nomatch h
  | succ m ih =>
    intro u b h
    unfold uB at h
    split at h
    · rw [List.mem_singleton] at h; omega
    · rcases List.mem_cons.mp h with e | e
      · omega
      · exact ih e
theorem uB_mono : ∀ {m u w : Nat}, u ≤ w → (uB m u).length ≤ (uB m w).length := by
  intro m
  induction m with
  | zero => intro u w _; exact Nat.le_refl _
  | succ m ih =>
    intro u w h
    unfold uB
    by_cases c : u < 128
    · rw [if_pos c]
      split
      · exact Nat.le_refl _
      · exact Nat.succ_le_succ (Nat.zero_le _)
    · rw [if_neg c, if_neg (by omega)]
      exact Nat.succ_le_succ (ih (by omega))

def uz (u : Nat) : Int := if u % 2 = 0 then ((u / 2 : Nat) : Int) else -((u / 2 : Nat) : Int) - 1
theorem uz_zz (x : Int) : uz (zz x) = x := by
  unfold uz zz
  by_cases c : 0 ≤ x
  · rw [if_pos c, if_pos (by omega)]; omega
  · rw [if_neg c, if_neg (by omega)]; omega
theorem zz_lt {x : Int} (h1 : -9223372036854775808 ≤ x) (h2 : x < 9223372036854775808) : zz x < 18446744073709551616 := by
  unfold zz
  split <;> omega
theorem uz_b {u : Nat} (h : u < 18446744073709551616) : -9223372036854775808 ≤ uz u ∧ uz u < 9223372036854775808 := by
  unfold uz
  split <;> omega
theorem zz_uz (u : Nat) : zz (uz u) = u := by
  unfold uz
  by_cases c : u % 2 = 0
  · rw [if_pos c]; unfold zz; rw [if_pos (by omega)]; omega
  · rw [if_neg c]; unfold zz; rw [if_neg (by omega)]; omega
theorem unz_uz (u : Int) : zxorL (zushrL u 1) (-(zandL u 1)) = uz (vN u) := unzz u
