/-! ===== Math.abs, Math.max ===== -/
def zmax (x y : Int) : Int := if w32 x < w32 y then y else x
def zabsL (x : Int) : Int := if 0 < w64 x then x else -x
theorem zk_max : Cond.code Lib.Math.max.name Lib.Math.max.code 2 (some .int) ∈ lw_tbl := tc_6 _ (List.mem_of_getElem? (i := 19) rfl)
theorem zk_abs : Cond.code Lib.MathLoose.abs_long.x Lib.MathLoose.abs_long.code 2 (some .long) ∈ lw_tbl := tc_5 _ (List.mem_of_getElem? (i := 86) rfl)
theorem zk_ini : Cond.initialized "java/lang/Math" ∈ lw_tbl := tc_1 _ (List.mem_of_getElem? (i := 24) (by decide +kernel))
section ZJ
variable {l : Launch} {s0 : State} {a0 : Array Value} {G : va_G} {ca : Nat → ClassId} {nm : String} {cc : ByteArray} {nL : Nat} {ret : Option FieldType} {tab : List ExceptionTableEntry} {d : Nat} {w0 w : rt_Wd} {Qr : rt_Res → rt_Wd → Prop} {pc : Nat} {lv : List (Nat × Value)} {st : List Value} {C : Nat × Nat} {S : zS} {M : zM}
theorem z_max (Γ : rt_Γ l s0 a0 G ca) {x y : Int} (hW : (st.map fun v => v.category).sum ≤ 12) (hok : zok C) (hd : decode cc pc = .ok (.invokestatic 183, 3)) (k : rt_Go l s0 G RX7 nm cc nL ret tab d w0 Qr (pc + 3) lv (zv s0 0 (zmax x y) :: st) (zw s0 ca C S M)) : rt_Go l s0 G RX7 nm cc nL ret tab d w0 Qr pc lv (zv s0 0 y :: zv s0 0 x :: st) (zw s0 ca C S M) := by
  intro p e s m args below meth c E H locs ls hP h1 h2 hS hl
  have hs := E.2.2.2.2.2.2.2.2.1
  have h1' : w0.1 ≤ C.1 := h1
  have h2' : w0.2.1 ≤ C.2 := h2
  have := hok.1
  have := hok.2
  have K := k p e s m args below meth c E H locs ls hP h1 h2 hS hl
  refine va_mmax E.1 E.2.1 (hl.1.trans E.2.2.1.symm).symm E.2.2.2.2.2.2.2.1 (rt_word Γ (kc_RX7_183.1 : Cond.methodLink RX7 183 Lib.Math.max.name ∈ lw_tbl) rfl hs args) (rt_word Γ (kc_RX7_183.2 : Cond.static Lib.Math.max.name ∈ lw_tbl) rfl hs args) (rt_word Γ zk_ini rfl hs args) (rt_word Γ zk_max rfl hs args) (by show 1 ≤ d + 12; omega) (by show _ + 13 ≤ 41 * d + 524; omega) (by show C.1 - w0.1 ≤ 600000 - w0.1; omega) (by show C.2 - w0.2.1 ≤ 7300000 - w0.2.1; omega) hd ?_
  have e9 : Value.int (if Int32.ofInt x < Int32.ofInt y then Int32.ofInt y else Int32.ofInt x) = zv s0 0 (zmax x y) := by
    refine congrArg Value.int ?_
    unfold zmax
    simp only [z_lt]
    split <;> rfl
  rw [e9]
  exact K
theorem z_absL (Γ : rt_Γ l s0 a0 G ca) {x : Int} (hW : (st.map fun v => v.category).sum ≤ 12) (hok : zok C) (hd : decode cc pc = .ok (.invokestatic 134, 3)) (k : rt_Go l s0 G RX4 nm cc nL ret tab d w0 Qr (pc + 3) lv (zv s0 1 (zabsL x) :: st) (zw s0 ca C S M)) : rt_Go l s0 G RX4 nm cc nL ret tab d w0 Qr pc lv (zv s0 1 x :: st) (zw s0 ca C S M) := by
  intro p e s m args below meth c E H locs ls hP h1 h2 hS hl
  have hs := E.2.2.2.2.2.2.2.2.1
  have h1' : w0.1 ≤ C.1 := h1
  have h2' : w0.2.1 ≤ C.2 := h2
  have := hok.1
  have := hok.2
  have K := k p e s m args below meth c E H locs ls hP h1 h2 hS hl
  refine va_mabs_long E.1 E.2.1 (hl.1.trans E.2.2.1.symm).symm E.2.2.2.2.2.2.2.1 (rt_word Γ (kc_RX4_134.1 : Cond.methodLink RX4 134 Lib.MathLoose.abs_long.x ∈ lw_tbl) rfl hs args) (rt_word Γ (kc_RX4_134.2 : Cond.static Lib.MathLoose.abs_long.x ∈ lw_tbl) rfl hs args) (rt_word Γ zk_ini rfl hs args) (rt_word Γ zk_abs rfl hs args) (by show 1 ≤ d + 12; omega) (by show _ + 13 ≤ 41 * d + 524; omega) (by show C.1 - w0.1 ≤ 600000 - w0.1; omega) (by show C.2 - w0.2.1 ≤ 7300000 - w0.2.1; omega) hd ?_
  have e9 : Value.long (if 0 < Int64.ofInt x then Int64.ofInt x else -Int64.ofInt x) = zv s0 1 (zabsL x) := by
    refine congrArg Value.long ?_
    unfold zabsL
    have e8 : (0 : Int64) < Int64.ofInt x ↔ 0 < w64 x := z_lt64 0 x
    simp only [e8]
    split
    · rfl
    · rw [Int64.ofInt_neg]
  rw [e9]
  exact K
end ZJ
