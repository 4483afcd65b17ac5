/-! ===== the four bytes of a number ===== -/
theorem bt8 (a : BitVec 32) (k : Nat) (hk : k + 8 ≤ 32) : (a.sshiftRight k).setWidth 8 = ((a >>> k) &&& 255#32).setWidth 8 := by
  apply BitVec.eq_of_getLsbD_eq
  intro i hi
  have h255 : ∀ i : Nat, i < 8 → (255#32).getLsbD i = true := by decide
  have hi2 : i < 32 := by omega
  have hk2 : k + i < 32 := by omega
  simp only [BitVec.getLsbD_setWidth, BitVec.getLsbD_and, BitVec.getLsbD_ushiftRight, BitVec.getLsbD_sshiftRight, h255 i hi, Bool.and_true]
  simp [hi, hk2]
  omega
theorem w8_bv (y : BitVec 32) : w8 y.toInt = (y.setWidth 8).toInt := by
  rw [BitVec.toInt_setWidth, BitVec.toInt_eq_toNat_bmod]
  unfold w8
  exact Int.bmod_bmod_of_dvd (by decide)
theorem zshr_24 (v : Int) : zshr v 24 = ((Int32.ofInt v).toBitVec.sshiftRight 24).toInt := rfl
theorem zushr_24 (v : Int) : zushr v 24 = ((Int32.ofInt v).toBitVec >>> 24).toInt := rfl
theorem zshr_16 (v : Int) : zshr v 16 = ((Int32.ofInt v).toBitVec.sshiftRight 16).toInt := rfl
theorem zushr_16 (v : Int) : zushr v 16 = ((Int32.ofInt v).toBitVec >>> 16).toInt := rfl
theorem zshr_8 (v : Int) : zshr v 8 = ((Int32.ofInt v).toBitVec.sshiftRight 8).toInt := rfl
theorem zushr_8 (v : Int) : zushr v 8 = ((Int32.ofInt v).toBitVec >>> 8).toInt := rfl
theorem zshr_0 (v : Int) : zshr v 0 = ((Int32.ofInt v).toBitVec.sshiftRight 0).toInt := rfl
theorem zushr_0 (v : Int) : zushr v 0 = ((Int32.ofInt v).toBitVec >>> 0).toInt := rfl
theorem zand_bv (x : Int) : zand x 255 = ((Int32.ofInt x).toBitVec &&& 255#32).toInt := rfl
theorem ofInt_bv (y : BitVec 32) : (Int32.ofInt y.toInt).toBitVec = y := BitVec.ofInt_toInt
/-- the byte of v at the shift k -/
def btV (v : Int) (k : Nat) : Nat := (((Int32.ofInt v).toBitVec >>> k) &&& 255#32).toNat
theorem btV_lt (v : Int) (k : Nat) : btV v k < 256 := by
  unfold btV
  rw [BitVec.toNat_and]
  exact Nat.lt_of_le_of_lt Nat.and_le_right (by decide)
theorem btV_i (v : Int) (k : Nat) : (((Int32.ofInt v).toBitVec >>> k) &&& 255#32).toInt = (btV v k : Int) := by
  have h := btV_lt v k
  unfold btV at h ⊢
  rw [BitVec.toInt_eq_toNat_bmod]
  exact Int.bmod_eq_of_le (by omega) (by omega)
theorem bt_c (v s : Int) (k : Nat) (h : (s = 24 ∧ k = 24) ∨ (s = 16 ∧ k = 16) ∨ (s = 8 ∧ k = 8) ∨ (s = 0 ∧ k = 0)) : zand (zushr v s) 255 = (btV v k : Int) ∧ w8 (w8 (zshr v s)) = w8 (btV v k : Nat) := by
  have key : ∀ k : Nat, k + 8 ≤ 32 → w8 (w8 ((Int32.ofInt v).toBitVec.sshiftRight k).toInt) = w8 (btV v k : Nat) := fun k hk => by
    rw [w8_w8, w8_bv, bt8 _ k hk, ← w8_bv, btV_i]
  rcases h with ⟨rfl, rfl⟩ | ⟨rfl, rfl⟩ | ⟨rfl, rfl⟩ | ⟨rfl, rfl⟩
  · exact ⟨by rw [zand_bv, zushr_24, ofInt_bv, btV_i], by rw [zshr_24]; exact key 24 (by decide)⟩
  · exact ⟨by rw [zand_bv, zushr_16, ofInt_bv, btV_i], by rw [zshr_16]; exact key 16 (by decide)⟩
  · exact ⟨by rw [zand_bv, zushr_8, ofInt_bv, btV_i], by rw [zshr_8]; exact key 8 (by decide)⟩
  · exact ⟨by rw [zand_bv, zushr_0, ofInt_bv, btV_i], by rw [zshr_0]; exact key 0 (by decide)⟩
/-- the four bytes -/
def bt4 (v : Int) : List Nat := [btV v 24, btV v 16, btV v 8, btV v 0]
