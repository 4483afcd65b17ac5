/-! ===== one call on new objects ===== -/
section RTls
variable {l : Launch} {s0 : State} {a0 : Array Value} {G : va_G} {ca : Nat → ClassId} {own nm : String} {cc : ByteArray} {nL : Nat} {ret : Option FieldType} {tab : List ExceptionTableEntry} {d : Nat} {w0 w : rt_Wd} {Q : rt_Res → rt_Wd → Prop} {pc : Nat} {lv lv' : List (Nat × Value)} {st : List Value}
theorem rt_lfew (ks : List Nat) (h : lv_pick lv ks = lv') (k : rt_Go l s0 G own nm cc nL ret tab d w0 Q pc lv' st w) : rt_Go l s0 G own nm cc nL ret tab d w0 Q pc lv st w :=
  fun p e s m args below meth c E H locs ls hP h1 h2 hS hl => k p e s m args below meth c E H locs ls hP h1 h2 hS (lv_sub hl ks h)
end RTls
theorem i8_le {p : Int32} (h : ¬ p < 8) : 7 < p := by
  rw [Int32.lt_iff_toInt_lt] at h ⊢
  have : (8 : Int32).toInt = 8 := by decide
  have : (7 : Int32).toInt = 7 := by decide
  omega
theorem i8_lt {p : Int32} (h : p < 8) : ¬ 7 < p := by
  rw [Int32.lt_iff_toInt_lt] at h ⊢
  have : (8 : Int32).toInt = 8 := by decide
  have : (7 : Int32).toInt = 7 := by decide
  omega
theorem i8_ge {p : Int32} (h : ¬ p < 8) : 8 ≤ p := Int32.not_lt.mp h
theorem i1_out {v : Int32} (h0 : ¬ v < 0) (h1 : ¬ v = 0) (h2 : ¬ v = 1) : 1 < v := by
  rw [Int32.lt_iff_toInt_lt] at h0 ⊢
  have e0 : ¬ v.toInt = 0 := fun h => h1 (Int32.toInt_inj.mp (by rw [h]; decide))
  have e1 : ¬ v.toInt = 1 := fun h => h2 (Int32.toInt_inj.mp (by rw [h]; decide))
  have z0 : (0 : Int32).toInt = 0 := by decide
  have z1 : (1 : Int32).toInt = 1 := by decide
  omega
theorem im1_lt {i : Int32} (h : ¬ i < 0) : (0 : Int32) - 1 < i := by
  rw [Int32.lt_iff_toInt_lt] at h ⊢
  have z0 : (0 : Int32).toInt = 0 := by decide
  have z1 : ((0 : Int32) - 1).toInt = -1 := by decide
  omega
theorem rt_fs8 {p : Int32} (h0 : ¬ p < 0) (h1 : ¬ 7 < p) : rt_fs 8 p.toNatClampNeg = -1 := by
  obtain ⟨j, hj, rfl⟩ := vp_in_of (vp_in7 h0 h1) (by decide)
  rw [nI_clamp (by omega)]
  simp [rt_fs, hj]
