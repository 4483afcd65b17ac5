/-! ===== THE LAYER z: memories that are functions of whole numbers; a method's promise over them =====
An object or array has a number (the cell's in the world); M a k is what stands in its field or place k, as a whole number (of an int any that is it modulo 2^32). S says what each is: (0, class, fields) an object, a field (0, _) int, (1, _) long, (2, _) reference, (3, c) always the reference c; (1, n, _) ints, (2, n, _) bytes, (3, n, _) longs, (4, n, _) booleans, (5, n, _) references. -/
abbrev zM : Type := Int → Int → Int
abbrev zSh : Type := Nat × Nat × List (Nat × Int)
abbrev zS : Type := Int → Option zSh
def w8 (x : Int) : Int := x.bmod 256
def w32 (x : Int) : Int := x.bmod 4294967296
def w64 (x : Int) : Int := x.bmod 18446744073709551616
theorem w8_id {x : Int} (h1 : -128 ≤ x) (h2 : x < 128) : w8 x = x := Int.bmod_eq_of_le (by omega) (by omega)
theorem w32_id {x : Int} (h1 : -2147483648 ≤ x) (h2 : x < 2147483648) : w32 x = x := Int.bmod_eq_of_le (by omega) (by omega)
theorem w64_id {x : Int} (h1 : -9223372036854775808 ≤ x) (h2 : x < 9223372036854775808) : w64 x = x := Int.bmod_eq_of_le (by omega) (by omega)
theorem w32_b (x : Int) : -2147483648 ≤ w32 x ∧ w32 x < 2147483648 := by
  have h1 := @Int.le_bmod x 4294967296 (by decide)
  have h2 := @Int.bmod_lt x 4294967296 (by decide)
  unfold w32
  omega
theorem w64_b (x : Int) : -9223372036854775808 ≤ w64 x ∧ w64 x < 9223372036854775808 := by
  have h1 := @Int.le_bmod x 18446744073709551616 (by decide)
  have h2 := @Int.bmod_lt x 18446744073709551616 (by decide)
  unfold w64
  omega
theorem w8_b (x : Int) : -128 ≤ w8 x ∧ w8 x < 128 := by
  have h1 := @Int.le_bmod x 256 (by decide)
  have h2 := @Int.bmod_lt x 256 (by decide)
  unfold w8
  omega
theorem z_toI (x : Int) : (Int32.ofInt x).toInt = w32 x := Int32.toInt_ofInt
theorem z_toL (x : Int) : (Int64.ofInt x).toInt = w64 x := Int64.toInt_ofInt
theorem z_lt (x y : Int) : Int32.ofInt x < Int32.ofInt y ↔ w32 x < w32 y := by rw [Int32.lt_iff_toInt_lt, z_toI, z_toI]
theorem z_le (x y : Int) : Int32.ofInt x ≤ Int32.ofInt y ↔ w32 x ≤ w32 y := by rw [Int32.le_iff_toInt_le, z_toI, z_toI]
theorem z_eq (x y : Int) : Int32.ofInt x = Int32.ofInt y ↔ w32 x = w32 y := by rw [← Int32.toInt_inj, z_toI, z_toI]
theorem z_lt64 (x y : Int) : Int64.ofInt x < Int64.ofInt y ↔ w64 x < w64 y := by rw [Int64.lt_iff_toInt_lt, z_toL, z_toL]
theorem z_eq64 (x y : Int) : Int64.ofInt x = Int64.ofInt y ↔ w64 x = w64 y := by rw [← Int64.toInt_inj, z_toL, z_toL]
/-- bits, by the machine's own words -/
def zand (x y : Int) : Int := (Int32.ofInt x &&& Int32.ofInt y).toInt
def zor (x y : Int) : Int := (Int32.ofInt x ||| Int32.ofInt y).toInt
def zxor (x y : Int) : Int := (Int32.ofInt x ^^^ Int32.ofInt y).toInt
def zshl (x y : Int) : Int := (Int32.ofInt x <<< (Int32.ofInt y &&& 31)).toInt
def zshr (x y : Int) : Int := (Int32.ofInt x >>> (Int32.ofInt y &&& 31)).toInt
def zushr (x y : Int) : Int := ((Int32.ofInt x).toUInt32 >>> ((Int32.ofInt y).toUInt32 &&& Int32.toUInt32 31)).toInt32.toInt
def zdiv (x y : Int) : Int := (Int32.ofInt x / Int32.ofInt y).toInt
def zrem (x y : Int) : Int := (Int32.ofInt x - Int32.ofInt x / Int32.ofInt y * Int32.ofInt y).toInt
def zandL (x y : Int) : Int := (Int64.ofInt x &&& Int64.ofInt y).toInt
def zorL (x y : Int) : Int := (Int64.ofInt x ||| Int64.ofInt y).toInt
def zxorL (x y : Int) : Int := (Int64.ofInt x ^^^ Int64.ofInt y).toInt
def zshlL (x y : Int) : Int := (Int64.ofInt x <<< ((Int32.ofInt y).toInt64 &&& 63)).toInt
def zshrL (x y : Int) : Int := (Int64.ofInt x >>> ((Int32.ofInt y).toInt64 &&& 63)).toInt
def zushrL (x y : Int) : Int := ((Int64.ofInt x).toUInt64 >>> ((Int32.ofInt y).toInt64.toUInt64 &&& Int64.toUInt64 63)).toInt64.toInt
def zdivL (x y : Int) : Int := (Int64.ofInt x / Int64.ofInt y).toInt
/-- a value of the type t -/
def zv (s0 : State) : Nat → Int → Value
  | 0, x => .int (Int32.ofInt x)
  | 1, x => .long (Int64.ofInt x)
  | _, x => if x < 0 then .null else rt_r s0 x.toNat
def zft (tc : Nat × Int) : Nat := if tc.1 = 3 then 2 else tc.1
def zfx (m : Int → Int) (k : Nat) (tc : Nat × Int) : Int := if tc.1 = 3 then tc.2 else m k
def zfs (s0 : State) (m : Int → Int) : Nat → List (Nat × Int) → List Value
  | _, [] => []
  | k, tc :: r => zv s0 (zft tc) (zfx m k tc) :: zfs s0 m (k + 1) r
def zcell (s0 : State) (ca : Nat → ClassId) (m : Int → Int) (q : zSh) : va_E := match q.1 with
  | 0 => .inr (q.2.1, zfs s0 m 0 q.2.2)
  | 1 => .inl (ca 0, q.2.1, .inl (fun j => Int32.ofInt (m j)))
  | 2 => .inl (ca 1, q.2.1, .inl (fun j => Int32.ofInt (m j)))
  | 3 => .inl (ca 2, q.2.1, .inr (.inl (fun j => Int64.ofInt (m j))))
  | 4 => .inl (ca 3, q.2.1, .inl (fun j => Int32.ofInt (m j)))
  | _ => .inl (ca 4, q.2.1, .inr (.inr (.inr (.inr (fun j => if m j < 0 then none else some (s0.heap.size + (m j).toNat))))))
def zw (s0 : State) (ca : Nat → ClassId) (C : Nat × Nat) (S : zS) (M : zM) : rt_Wd := (C.1, C.2, fun i => (S i).map (zcell s0 ca (M i)))
def zu (M : zM) (a k v : Int) : zM := fun b j => if b = a ∧ j = k then v else M b j
theorem zu_s (M : zM) (a k v : Int) : zu M a k v a k = v := if_pos ⟨rfl, rfl⟩
theorem zu_k {M : zM} {a k v b j : Int} (h : ¬ j = k) : zu M a k v b j = M b j := if_neg (fun c => h c.2)
theorem zu_a {M : zM} {a k v b j : Int} (h : ¬ b = a) : zu M a k v b j = M b j := if_neg (fun c => h c.1)
theorem zfs_get {s0 : State} {m : Int → Int} {tys : List (Nat × Int)} {b k : Nat} {tc : Nat × Int} (h : tys[k]? = some tc) : (zfs s0 m b tys)[k]? = some (zv s0 (zft tc) (zfx m (b + k) tc)) := by
  induction tys generalizing b k with
  | nil => simp at h
  | cons q r ih =>
    cases k with
    | zero =>
      simp only [List.getElem?_cons_zero, Option.some.injEq] at h
      subst h
      simp [zfs]
    | succ k =>
      simp only [List.getElem?_cons_succ] at h
      simp only [zfs, List.getElem?_cons_succ]
      rw [ih h, show b + 1 + k = b + (k + 1) from by omega]
theorem zfs_len {s0 : State} {m : Int → Int} {tys : List (Nat × Int)} {b : Nat} : (zfs s0 m b tys).length = tys.length := by
  induction tys generalizing b with
  | nil => rfl
  | cons q r ih => simp [zfs, ih]
theorem zfs_hi {s0 : State} {m : Int → Int} {tys : List (Nat × Int)} {b k : Nat} {v : Int} (h : k < b) : zfs s0 (fun j => if j = (k : Int) then v else m j) b tys = zfs s0 m b tys := by
  induction tys generalizing b with
  | nil => rfl
  | cons q r ih =>
    simp only [zfs]
    rw [ih (by omega)]
    congr 2
    unfold zfx
    split
    · rfl
    · exact (if_neg (by omega))
theorem zfs_set {s0 : State} {m : Int → Int} {tys : List (Nat × Int)} {b k : Nat} {tc : Nat × Int} {v : Int} (h : tys[k]? = some tc) (ht : tc.1 ≠ 3) : (zfs s0 m b tys).set k (zv s0 tc.1 v) = zfs s0 (fun j => if j = ((b + k : Nat) : Int) then v else m j) b tys := by
  induction tys generalizing b k with
  | nil => simp at h
  | cons q r ih =>
    cases k with
    | zero =>
      simp only [List.getElem?_cons_zero, Option.some.injEq] at h
      subst h
      simp only [zfs, List.set_cons_zero]
      rw [zfs_hi (k := b + 0) (by omega)]
      congr 1
      unfold zft zfx
      rw [if_neg ht, if_neg ht]
      exact congrArg _ (if_pos (by simp)).symm
    | succ k =>
      simp only [List.getElem?_cons_succ] at h
      simp only [zfs, List.set_cons_succ]
      rw [ih h, show b + 1 + k = b + (k + 1) from by omega]
      congr 1
      unfold zfx
      split
      · rfl
      · exact congrArg _ (if_neg (by omega)).symm
/-- what a world holds at a place -/
theorem zw_at {s0 : State} {ca : Nat → ClassId} {C : Nat × Nat} {S : zS} {M : zM} {a : Int} {q : zSh} (h0 : 0 ≤ a) (h : S a = some q) : (zw s0 ca C S M).2.2 a.toNat = some (zcell s0 ca (M a) q) := by
  show (S (a.toNat : Int)).map (zcell s0 ca (M (a.toNat : Int))) = _
  rw [Int.toNat_of_nonneg h0, h]
  rfl
theorem zw_up {s0 : State} {ca : Nat → ClassId} {C : Nat × Nat} {S : zS} {M M' : zM} {a : Int} {q : zSh} {e : va_E} (h0 : 0 ≤ a) (h : S a = some q) (he : zcell s0 ca (M' a) q = e) (hM : ∀ b : Int, b ≠ a → M' b = M b) : rt_up (zw s0 ca C S M) a.toNat e = zw s0 ca C S M' := by
  refine Prod.ext rfl (Prod.ext rfl (funext fun j => ?_))
  show (if j = a.toNat then some e else (S j).map (zcell s0 ca (M j))) = (S j).map (zcell s0 ca (M' j))
  by_cases hj : j = a.toNat
  · rw [if_pos hj, hj, Int.toNat_of_nonneg h0, h, ← he]
    rfl
  · rw [if_neg hj, hM _ (by omega)]
theorem zv_ref {s0 : State} {x : Int} (h : 0 ≤ x) : zv s0 2 x = rt_r s0 x.toNat := if_neg (by omega)
theorem zv_null {s0 : State} {x : Int} (h : x < 0) : zv s0 2 x = .null := if_pos h
theorem zv_cat0 {s0 : State} {x : Int} : (zv s0 0 x).category = 1 := rfl
theorem zv_cat1 {s0 : State} {x : Int} : (zv s0 1 x).category = 2 := rfl
theorem zv_cat2 {s0 : State} {x : Int} : (zv s0 2 x).category = 1 := by
  by_cases h : x < 0
  · rw [zv_null h]; rfl
  · rw [zv_ref (by omega)]; rfl
/-! a method's promise: at these arguments, in this memory, it returns v and leaves M' of Q, or throws IllegalStateException and leaves M' of X -/
abbrev zISE : String := "java/lang/IllegalStateException"
def zret (s0 : State) (t : Nat) (v : Int) : Option Value := if t = 9 then none else some (zv s0 t v)
def zQ (s0 : State) (ca : Nat → ClassId) (t : Nat) (C : Nat × Nat) (S : zS) (Q : Int → zM → Prop) (X : zM → Prop) : rt_Res → rt_Wd → Prop := fun r w =>
  (∃ (v : Int) (M : zM), r = .inl (zret s0 t v) ∧ w = zw s0 ca C S M ∧ Q v M) ∨ (r = .inr zISE ∧ ∃ (n : Nat) (M : zM), C.1 ≤ n ∧ n ≤ C.1 + 1 ∧ w = zw s0 ca (n, C.2 + 6) S M ∧ X M)
def zMet (l : Launch) (s0 : State) (G : va_G) (ca : Nat → ClassId) (k : Cond) (y : MethodName) (t d : Nat) (av : List Value) (C : Nat × Nat) (S : zS) (M : zM) (Q : Int → zM → Prop) (X : zM → Prop) : Prop :=
  rt_Met l s0 G k y d av (zw s0 ca C S M) (zQ s0 ca t C S Q X)
abbrev zok (C : Nat × Nat) : Prop := C.1 ≤ 599000 ∧ C.2 ≤ 7290000
theorem rt_Met.mono {l : Launch} {s0 : State} {G : va_G} {k : Cond} {y : MethodName} {d : Nat} {av : List Value} {w : rt_Wd} {Q Q' : rt_Res → rt_Wd → Prop} (h : ∀ r w1, Q r w1 → Q' r w1) (hm : rt_Met l s0 G k y d av w Q) : rt_Met l s0 G k y d av w Q' := by
  intro p e ha hf hk s m args below h1 h2 h3 h4
  obtain ⟨n, o, a, b, c, r, w1, L, hq, rest⟩ := hm p e ha hf hk s m args below h1 h2 h3 h4
  exact ⟨n, o, a, b, c, r, w1, L, h r w1 hq, rest⟩
theorem zMet.mono {l : Launch} {s0 : State} {G : va_G} {ca : Nat → ClassId} {k : Cond} {y : MethodName} {t d : Nat} {av : List Value} {C : Nat × Nat} {S : zS} {M : zM} {Q Q' : Int → zM → Prop} {X X' : zM → Prop} (hm : zMet l s0 G ca k y t d av C S M Q X) (h : ∀ v M1, Q v M1 → Q' v M1) (hx : ∀ M1, X M1 → X' M1) : zMet l s0 G ca k y t d av C S M Q' X' :=
  rt_Met.mono (fun r w1 q => by
    rcases q with ⟨v, M1, h1, h2, h3⟩ | ⟨h1, n, M1, h2, h3, h4, h5⟩
    · exact Or.inl ⟨v, M1, h1, h2, h v M1 h3⟩
    · exact Or.inr ⟨h1, n, M1, h2, h3, h4, hx M1 h5⟩) hm
section ZR
variable {l : Launch} {s0 : State} {a0 : Array Value} {G : va_G} {ca : Nat → ClassId} {own nm : String} {cc : ByteArray} {nL : Nat} {ret : Option FieldType} {tab : List ExceptionTableEntry} {d : Nat} {w0 w : rt_Wd} {Qr : rt_Res → rt_Wd → Prop} {pc : Nat} {lv lv' : List (Nat × Value)} {st : List Value} {C : Nat × Nat} {S : zS} {M : zM} {t : Nat} {Q : Int → zM → Prop} {X : zM → Prop}
theorem z_iconst {n : Int} (hd : decode cc pc = .ok (.iconst n, 1)) (k : rt_Go l s0 G own nm cc nL ret tab d w0 Qr (pc + 1) lv (zv s0 0 n :: st) w) : rt_Go l s0 G own nm cc nL ret tab d w0 Qr pc lv st w :=
  rt_iconst hd rfl k
theorem z_bipush {n : Int} (hd : decode cc pc = .ok (.bipush n, 2)) (hv : (Int8.ofInt n).toInt32 = Int32.ofInt n) (k : rt_Go l s0 G own nm cc nL ret tab d w0 Qr (pc + 2) lv (zv s0 0 n :: st) w) : rt_Go l s0 G own nm cc nL ret tab d w0 Qr pc lv st w :=
  rt_bipush hd hv k
theorem z_sipush {n : Int} (hd : decode cc pc = .ok (.sipush n, 3)) (hv : (Int16.ofInt n).toInt32 = Int32.ofInt n) (k : rt_Go l s0 G own nm cc nL ret tab d w0 Qr (pc + 3) lv (zv s0 0 n :: st) w) : rt_Go l s0 G own nm cc nL ret tab d w0 Qr pc lv st w :=
  rt_sipush hd hv k
theorem z_lconst {n : Fin 2} {v : Int} (hd : decode cc pc = .ok (.lconst n, 1)) (hv : Int64.ofNat (n : Nat) = Int64.ofInt v) (k : rt_Go l s0 G own nm cc nL ret tab d w0 Qr (pc + 1) lv (zv s0 1 v :: st) w) : rt_Go l s0 G own nm cc nL ret tab d w0 Qr pc lv st w :=
  rt_lconst hd hv k
theorem z_null (hd : decode cc pc = .ok (.aconst_null, 1)) (k : rt_Go l s0 G own nm cc nL ret tab d w0 Qr (pc + 1) lv (zv s0 2 (-1) :: st) w) : rt_Go l s0 G own nm cc nL ret tab d w0 Qr pc lv st w :=
  rt_null hd k
theorem z_iload_n {kf : Fin 4} {i j : Nat} {x : Int} (hd : decode cc pc = .ok (.iload_n kf, 1)) (hi : (kf : Nat) = i) (hj : lv[j]? = some (i, zv s0 0 x)) (k : rt_Go l s0 G own nm cc nL ret tab d w0 Qr (pc + 1) lv (zv s0 0 x :: st) w) : rt_Go l s0 G own nm cc nL ret tab d w0 Qr pc lv st w :=
  rt_iload_n hd hi hj k
theorem z_iload {i j : Nat} {x : Int} (hd : decode cc pc = .ok (.iload i, 2)) (hj : lv[j]? = some (i, zv s0 0 x)) (k : rt_Go l s0 G own nm cc nL ret tab d w0 Qr (pc + 2) lv (zv s0 0 x :: st) w) : rt_Go l s0 G own nm cc nL ret tab d w0 Qr pc lv st w :=
  rt_iload hd hj k
theorem z_lload_n {kf : Fin 4} {i j : Nat} {x : Int} (hd : decode cc pc = .ok (.lload_n kf, 1)) (hi : (kf : Nat) = i) (hj : lv[j]? = some (i, zv s0 1 x)) (k : rt_Go l s0 G own nm cc nL ret tab d w0 Qr (pc + 1) lv (zv s0 1 x :: st) w) : rt_Go l s0 G own nm cc nL ret tab d w0 Qr pc lv st w :=
  rt_lload_n hd hi hj k
theorem z_lload {i j : Nat} {x : Int} (hd : decode cc pc = .ok (.lload i, 2)) (hj : lv[j]? = some (i, zv s0 1 x)) (k : rt_Go l s0 G own nm cc nL ret tab d w0 Qr (pc + 2) lv (zv s0 1 x :: st) w) : rt_Go l s0 G own nm cc nL ret tab d w0 Qr pc lv st w :=
  rt_lload hd hj k
theorem z_aload_n {kf : Fin 4} {i j : Nat} {x : Int} (hd : decode cc pc = .ok (.aload_n kf, 1)) (hi : (kf : Nat) = i) (hj : lv[j]? = some (i, zv s0 2 x)) (k : rt_Go l s0 G own nm cc nL ret tab d w0 Qr (pc + 1) lv (zv s0 2 x :: st) w) : rt_Go l s0 G own nm cc nL ret tab d w0 Qr pc lv st w := by
  by_cases h : x < 0
  · rw [zv_null h] at hj k
    exact rt_aloadN_n hd hi hj k
  · rw [zv_ref (by omega)] at hj k
    exact rt_aload_n hd hi hj k
theorem z_aload {i j : Nat} {x : Int} (hd : decode cc pc = .ok (.aload i, 2)) (hj : lv[j]? = some (i, zv s0 2 x)) (k : rt_Go l s0 G own nm cc nL ret tab d w0 Qr (pc + 2) lv (zv s0 2 x :: st) w) : rt_Go l s0 G own nm cc nL ret tab d w0 Qr pc lv st w := by
  by_cases h : x < 0
  · rw [zv_null h] at hj k
    exact rt_aloadN hd hj k
  · rw [zv_ref (by omega)] at hj k
    exact rt_aload hd hj k
theorem z_istore_n {kf : Fin 4} {i : Nat} {x : Int} (hd : decode cc pc = .ok (.istore_n kf, 1)) (hi : (kf : Nat) = i) (hn : i < nL) (hl : (i, zv s0 0 x) :: lv.filter (fun q => !(q.1 == i) && !(q.1 + 1 == i && q.2.category == 2)) = lv') (k : rt_Go l s0 G own nm cc nL ret tab d w0 Qr (pc + 1) lv' st w) : rt_Go l s0 G own nm cc nL ret tab d w0 Qr pc lv (zv s0 0 x :: st) w :=
  rt_istore_n hd hi hn hl k
theorem z_istore {i : Nat} {x : Int} (hd : decode cc pc = .ok (.istore i, 2)) (hn : i < nL) (hl : (i, zv s0 0 x) :: lv.filter (fun q => !(q.1 == i) && !(q.1 + 1 == i && q.2.category == 2)) = lv') (k : rt_Go l s0 G own nm cc nL ret tab d w0 Qr (pc + 2) lv' st w) : rt_Go l s0 G own nm cc nL ret tab d w0 Qr pc lv (zv s0 0 x :: st) w :=
  rt_istore hd hn hl k
theorem z_lstore_n {kf : Fin 4} {i : Nat} {x : Int} (hd : decode cc pc = .ok (.lstore_n kf, 1)) (hi : (kf : Nat) = i) (hn : i + 1 < nL) (hl : (i, zv s0 1 x) :: lv.filter (fun q => !(q.1 == i) && (!(q.1 == i + 1) && !(q.1 + 1 == i && q.2.category == 2))) = lv') (k : rt_Go l s0 G own nm cc nL ret tab d w0 Qr (pc + 1) lv' st w) : rt_Go l s0 G own nm cc nL ret tab d w0 Qr pc lv (zv s0 1 x :: st) w :=
  rt_lstore_n hd hi hn hl k
theorem z_lstore {i : Nat} {x : Int} (hd : decode cc pc = .ok (.lstore i, 2)) (hn : i + 1 < nL) (hl : (i, zv s0 1 x) :: lv.filter (fun q => !(q.1 == i) && (!(q.1 == i + 1) && !(q.1 + 1 == i && q.2.category == 2))) = lv') (k : rt_Go l s0 G own nm cc nL ret tab d w0 Qr (pc + 2) lv' st w) : rt_Go l s0 G own nm cc nL ret tab d w0 Qr pc lv (zv s0 1 x :: st) w :=
  rt_lstore hd hn hl k
theorem z_astore_n {kf : Fin 4} {i : Nat} {x : Int} (hd : decode cc pc = .ok (.astore_n kf, 1)) (hi : (kf : Nat) = i) (hn : i < nL) (hl : (i, zv s0 2 x) :: lv.filter (fun q => !(q.1 == i) && !(q.1 + 1 == i && q.2.category == 2)) = lv') (k : rt_Go l s0 G own nm cc nL ret tab d w0 Qr (pc + 1) lv' st w) : rt_Go l s0 G own nm cc nL ret tab d w0 Qr pc lv (zv s0 2 x :: st) w := by
  by_cases h : x < 0
  · rw [zv_null h] at hl ⊢
    exact rt_astoreN_n hd hi hn hl k
  · rw [zv_ref (by omega)] at hl ⊢
    exact rt_astore_n hd hi hn hl k
theorem z_astore {i : Nat} {x : Int} (hd : decode cc pc = .ok (.astore i, 2)) (hn : i < nL) (hl : (i, zv s0 2 x) :: lv.filter (fun q => !(q.1 == i) && !(q.1 + 1 == i && q.2.category == 2)) = lv') (k : rt_Go l s0 G own nm cc nL ret tab d w0 Qr (pc + 2) lv' st w) : rt_Go l s0 G own nm cc nL ret tab d w0 Qr pc lv (zv s0 2 x :: st) w := by
  by_cases h : x < 0
  · rw [zv_null h] at hl ⊢
    exact rt_astoreN hd hn hl k
  · rw [zv_ref (by omega)] at hl ⊢
    exact rt_astore hd hn hl k
theorem z_iadd {x y : Int} (hd : decode cc pc = .ok (.iadd, 1)) (k : rt_Go l s0 G own nm cc nL ret tab d w0 Qr (pc + 1) lv (zv s0 0 (x + y) :: st) w) : rt_Go l s0 G own nm cc nL ret tab d w0 Qr pc lv (zv s0 0 y :: zv s0 0 x :: st) w := by
  refine rt_iadd hd ?_
  rw [← Int32.ofInt_add]
  exact k
theorem z_isub {x y : Int} (hd : decode cc pc = .ok (.isub, 1)) (k : rt_Go l s0 G own nm cc nL ret tab d w0 Qr (pc + 1) lv (zv s0 0 (x - y) :: st) w) : rt_Go l s0 G own nm cc nL ret tab d w0 Qr pc lv (zv s0 0 y :: zv s0 0 x :: st) w := by
  refine rt_isub hd ?_
  rw [← Int32.ofInt_sub]
  exact k
theorem z_imul {x y : Int} (hd : decode cc pc = .ok (.imul, 1)) (k : rt_Go l s0 G own nm cc nL ret tab d w0 Qr (pc + 1) lv (zv s0 0 (x * y) :: st) w) : rt_Go l s0 G own nm cc nL ret tab d w0 Qr pc lv (zv s0 0 y :: zv s0 0 x :: st) w := by
  refine rt_imul hd ?_
  rw [← Int32.ofInt_mul]
  exact k
theorem z_ladd {x y : Int} (hd : decode cc pc = .ok (.ladd, 1)) (k : rt_Go l s0 G own nm cc nL ret tab d w0 Qr (pc + 1) lv (zv s0 1 (x + y) :: st) w) : rt_Go l s0 G own nm cc nL ret tab d w0 Qr pc lv (zv s0 1 y :: zv s0 1 x :: st) w := by
  refine rt_ladd hd ?_
  rw [← Int64.ofInt_add]
  exact k
theorem z_lsub {x y : Int} (hd : decode cc pc = .ok (.lsub, 1)) (k : rt_Go l s0 G own nm cc nL ret tab d w0 Qr (pc + 1) lv (zv s0 1 (x - y) :: st) w) : rt_Go l s0 G own nm cc nL ret tab d w0 Qr pc lv (zv s0 1 y :: zv s0 1 x :: st) w := by
  refine rt_lsub hd ?_
  rw [← Int64.ofInt_sub]
  exact k
theorem z_lmul {x y : Int} (hd : decode cc pc = .ok (.lmul, 1)) (k : rt_Go l s0 G own nm cc nL ret tab d w0 Qr (pc + 1) lv (zv s0 1 (x * y) :: st) w) : rt_Go l s0 G own nm cc nL ret tab d w0 Qr pc lv (zv s0 1 y :: zv s0 1 x :: st) w := by
  refine rt_lmul hd ?_
  rw [← Int64.ofInt_mul]
  exact k
theorem z_ineg {x : Int} (hd : decode cc pc = .ok (.ineg, 1)) (k : rt_Go l s0 G own nm cc nL ret tab d w0 Qr (pc + 1) lv (zv s0 0 (-x) :: st) w) : rt_Go l s0 G own nm cc nL ret tab d w0 Qr pc lv (zv s0 0 x :: st) w := by
  refine rt_ineg hd ?_
  rw [← Int32.ofInt_neg]
  exact k
theorem z_lneg {x : Int} (hd : decode cc pc = .ok (.lneg, 1)) (k : rt_Go l s0 G own nm cc nL ret tab d w0 Qr (pc + 1) lv (zv s0 1 (-x) :: st) w) : rt_Go l s0 G own nm cc nL ret tab d w0 Qr pc lv (zv s0 1 x :: st) w := by
  refine rt_lneg hd ?_
  rw [← Int64.ofInt_neg]
  exact k
theorem z_iand {x y : Int} (hd : decode cc pc = .ok (.iand, 1)) (k : rt_Go l s0 G own nm cc nL ret tab d w0 Qr (pc + 1) lv (zv s0 0 (zand x y) :: st) w) : rt_Go l s0 G own nm cc nL ret tab d w0 Qr pc lv (zv s0 0 y :: zv s0 0 x :: st) w := by
  refine rt_iand hd ?_
  have e : zv s0 0 (zand x y) = .int _ := congrArg Value.int (Int32.ofInt_toInt _)
  rw [e] at k
  exact k
theorem z_ior {x y : Int} (hd : decode cc pc = .ok (.ior, 1)) (k : rt_Go l s0 G own nm cc nL ret tab d w0 Qr (pc + 1) lv (zv s0 0 (zor x y) :: st) w) : rt_Go l s0 G own nm cc nL ret tab d w0 Qr pc lv (zv s0 0 y :: zv s0 0 x :: st) w := by
  refine rt_ior hd ?_
  have e : zv s0 0 (zor x y) = .int _ := congrArg Value.int (Int32.ofInt_toInt _)
  rw [e] at k
  exact k
theorem z_ixor {x y : Int} (hd : decode cc pc = .ok (.ixor, 1)) (k : rt_Go l s0 G own nm cc nL ret tab d w0 Qr (pc + 1) lv (zv s0 0 (zxor x y) :: st) w) : rt_Go l s0 G own nm cc nL ret tab d w0 Qr pc lv (zv s0 0 y :: zv s0 0 x :: st) w := by
  refine rt_ixor hd ?_
  have e : zv s0 0 (zxor x y) = .int _ := congrArg Value.int (Int32.ofInt_toInt _)
  rw [e] at k
  exact k
theorem z_ishl {x y : Int} (hd : decode cc pc = .ok (.ishl, 1)) (k : rt_Go l s0 G own nm cc nL ret tab d w0 Qr (pc + 1) lv (zv s0 0 (zshl x y) :: st) w) : rt_Go l s0 G own nm cc nL ret tab d w0 Qr pc lv (zv s0 0 y :: zv s0 0 x :: st) w := by
  refine rt_ishl hd ?_
  have e : zv s0 0 (zshl x y) = .int _ := congrArg Value.int (Int32.ofInt_toInt _)
  rw [e] at k
  exact k
theorem z_ishr {x y : Int} (hd : decode cc pc = .ok (.ishr, 1)) (k : rt_Go l s0 G own nm cc nL ret tab d w0 Qr (pc + 1) lv (zv s0 0 (zshr x y) :: st) w) : rt_Go l s0 G own nm cc nL ret tab d w0 Qr pc lv (zv s0 0 y :: zv s0 0 x :: st) w := by
  refine rt_ishr hd ?_
  have e : zv s0 0 (zshr x y) = .int _ := congrArg Value.int (Int32.ofInt_toInt _)
  rw [e] at k
  exact k
theorem z_land {x y : Int} (hd : decode cc pc = .ok (.land, 1)) (k : rt_Go l s0 G own nm cc nL ret tab d w0 Qr (pc + 1) lv (zv s0 1 (zandL x y) :: st) w) : rt_Go l s0 G own nm cc nL ret tab d w0 Qr pc lv (zv s0 1 y :: zv s0 1 x :: st) w := by
  refine rt_land hd ?_
  have e : zv s0 1 (zandL x y) = .long _ := congrArg Value.long (Int64.ofInt_toInt _)
  rw [e] at k
  exact k
theorem z_lor {x y : Int} (hd : decode cc pc = .ok (.lor, 1)) (k : rt_Go l s0 G own nm cc nL ret tab d w0 Qr (pc + 1) lv (zv s0 1 (zorL x y) :: st) w) : rt_Go l s0 G own nm cc nL ret tab d w0 Qr pc lv (zv s0 1 y :: zv s0 1 x :: st) w := by
  refine rt_lor hd ?_
  have e : zv s0 1 (zorL x y) = .long _ := congrArg Value.long (Int64.ofInt_toInt _)
  rw [e] at k
  exact k
theorem z_lxor {x y : Int} (hd : decode cc pc = .ok (.lxor, 1)) (k : rt_Go l s0 G own nm cc nL ret tab d w0 Qr (pc + 1) lv (zv s0 1 (zxorL x y) :: st) w) : rt_Go l s0 G own nm cc nL ret tab d w0 Qr pc lv (zv s0 1 y :: zv s0 1 x :: st) w := by
  refine rt_lxor hd ?_
  have e : zv s0 1 (zxorL x y) = .long _ := congrArg Value.long (Int64.ofInt_toInt _)
  rw [e] at k
  exact k
theorem z_lshl {x y : Int} (hd : decode cc pc = .ok (.lshl, 1)) (k : rt_Go l s0 G own nm cc nL ret tab d w0 Qr (pc + 1) lv (zv s0 1 (zshlL x y) :: st) w) : rt_Go l s0 G own nm cc nL ret tab d w0 Qr pc lv (zv s0 0 y :: zv s0 1 x :: st) w := by
  refine rt_lshl hd rfl ?_
  have e : zv s0 1 (zshlL x y) = .long _ := congrArg Value.long (Int64.ofInt_toInt _)
  rw [e] at k
  exact k
theorem z_lshr {x y : Int} (hd : decode cc pc = .ok (.lshr, 1)) (k : rt_Go l s0 G own nm cc nL ret tab d w0 Qr (pc + 1) lv (zv s0 1 (zshrL x y) :: st) w) : rt_Go l s0 G own nm cc nL ret tab d w0 Qr pc lv (zv s0 0 y :: zv s0 1 x :: st) w := by
  refine rt_lshr hd rfl ?_
  have e : zv s0 1 (zshrL x y) = .long _ := congrArg Value.long (Int64.ofInt_toInt _)
  rw [e] at k
  exact k
theorem z_lushr {x y : Int} (hd : decode cc pc = .ok (.lushr, 1)) (k : rt_Go l s0 G own nm cc nL ret tab d w0 Qr (pc + 1) lv (zv s0 1 (zushrL x y) :: st) w) : rt_Go l s0 G own nm cc nL ret tab d w0 Qr pc lv (zv s0 0 y :: zv s0 1 x :: st) w := by
  refine rt_lushr hd rfl ?_
  have e : zv s0 1 (zushrL x y) = .long _ := congrArg Value.long (Int64.ofInt_toInt _)
  rw [e] at k
  exact k
theorem z_iushr {x y : Int} (hd : decode cc pc = .ok (.iushr, 1)) (k : rt_Go l s0 G own nm cc nL ret tab d w0 Qr (pc + 1) lv (zv s0 0 (zushr x y) :: st) w) : rt_Go l s0 G own nm cc nL ret tab d w0 Qr pc lv (zv s0 0 y :: zv s0 0 x :: st) w := by
  refine rt_iushr hd rfl ?_
  have e : zv s0 0 (zushr x y) = .int _ := congrArg Value.int (Int32.ofInt_toInt _)
  rw [e] at k
  exact k
theorem z_idiv {x y : Int} (hd : decode cc pc = .ok (.idiv, 1)) (hy : ¬ w32 y = 0) (k : rt_Go l s0 G own nm cc nL ret tab d w0 Qr (pc + 1) lv (zv s0 0 (zdiv x y) :: st) w) : rt_Go l s0 G own nm cc nL ret tab d w0 Qr pc lv (zv s0 0 y :: zv s0 0 x :: st) w := by
  refine rt_idiv hd (fun h => hy ((z_eq y 0).mp h)) ?_
  have e : zv s0 0 (zdiv x y) = .int _ := congrArg Value.int (Int32.ofInt_toInt _)
  rw [e] at k
  exact k
theorem z_irem {x y : Int} (hd : decode cc pc = .ok (.irem, 1)) (hy : ¬ w32 y = 0) (k : rt_Go l s0 G own nm cc nL ret tab d w0 Qr (pc + 1) lv (zv s0 0 (zrem x y) :: st) w) : rt_Go l s0 G own nm cc nL ret tab d w0 Qr pc lv (zv s0 0 y :: zv s0 0 x :: st) w := by
  refine rt_irem hd (fun h => hy ((z_eq y 0).mp h)) ?_
  have e : zv s0 0 (zrem x y) = .int _ := congrArg Value.int (Int32.ofInt_toInt _)
  rw [e] at k
  exact k
theorem z_ldiv {x y : Int} (hd : decode cc pc = .ok (.ldiv, 1)) (hy : ¬ w64 y = 0) (k : rt_Go l s0 G own nm cc nL ret tab d w0 Qr (pc + 1) lv (zv s0 1 (zdivL x y) :: st) w) : rt_Go l s0 G own nm cc nL ret tab d w0 Qr pc lv (zv s0 1 y :: zv s0 1 x :: st) w := by
  refine rt_ldiv hd (fun h => hy ((z_eq64 y 0).mp h)) ?_
  have e : zv s0 1 (zdivL x y) = .long _ := congrArg Value.long (Int64.ofInt_toInt _)
  rw [e] at k
  exact k
theorem z_i2l {x : Int} (hd : decode cc pc = .ok (.i2l, 1)) (k : rt_Go l s0 G own nm cc nL ret tab d w0 Qr (pc + 1) lv (zv s0 1 (w32 x) :: st) w) : rt_Go l s0 G own nm cc nL ret tab d w0 Qr pc lv (zv s0 0 x :: st) w :=
  rt_i2l hd (by rw [← Int64.toInt_inj, Int32.toInt_toInt64, z_toI, z_toL]; have := w32_b x; rw [w64_id (by omega) (by omega)]) k
theorem z_l2i {x : Int} (hd : decode cc pc = .ok (.l2i, 1)) (k : rt_Go l s0 G own nm cc nL ret tab d w0 Qr (pc + 1) lv (zv s0 0 x :: st) w) : rt_Go l s0 G own nm cc nL ret tab d w0 Qr pc lv (zv s0 1 x :: st) w :=
  rt_l2i hd Int64.toInt32_ofInt k
theorem z_i2b {x : Int} (hd : decode cc pc = .ok (.i2b, 1)) (k : rt_Go l s0 G own nm cc nL ret tab d w0 Qr (pc + 1) lv (zv s0 0 (w8 x) :: st) w) : rt_Go l s0 G own nm cc nL ret tab d w0 Qr pc lv (zv s0 0 x :: st) w :=
  rt_i2b hd (by rw [← Int32.toInt_inj, Int8.toInt_toInt32, Int32.toInt8_ofInt, z_toI]; have := w8_b x; rw [w32_id (by omega) (by omega)]; exact Int8.toInt_ofInt) k
theorem z_i2c {x v : Int} (hd : decode cc pc = .ok (.i2c, 1)) (h0 : 0 ≤ x) (h1 : x < 65536) (hv : ((Int32.ofInt x).toUInt32 % 65536).toInt32 = Int32.ofInt x) (k : rt_Go l s0 G own nm cc nL ret tab d w0 Qr (pc + 1) lv (zv s0 0 x :: st) w) : rt_Go l s0 G own nm cc nL ret tab d w0 Qr pc lv (zv s0 0 x :: st) w :=
  rt_i2c hd hv k
theorem z_dup0 {x : Int} (hd : decode cc pc = .ok (.dup, 1)) (k : rt_Go l s0 G own nm cc nL ret tab d w0 Qr (pc + 1) lv (zv s0 0 x :: zv s0 0 x :: st) w) : rt_Go l s0 G own nm cc nL ret tab d w0 Qr pc lv (zv s0 0 x :: st) w :=
  rt_dup hd rfl k
theorem z_pop0 {x : Int} (hd : decode cc pc = .ok (.pop, 1)) (k : rt_Go l s0 G own nm cc nL ret tab d w0 Qr (pc + 1) lv st w) : rt_Go l s0 G own nm cc nL ret tab d w0 Qr pc lv (zv s0 0 x :: st) w :=
  rt_pop hd rfl k
theorem z_dup2 {x : Int} (hd : decode cc pc = .ok (.dup, 1)) (k : rt_Go l s0 G own nm cc nL ret tab d w0 Qr (pc + 1) lv (zv s0 2 x :: zv s0 2 x :: st) w) : rt_Go l s0 G own nm cc nL ret tab d w0 Qr pc lv (zv s0 2 x :: st) w :=
  rt_dup hd zv_cat2 k
theorem z_pop2 {x : Int} (hd : decode cc pc = .ok (.pop, 1)) (k : rt_Go l s0 G own nm cc nL ret tab d w0 Qr (pc + 1) lv st w) : rt_Go l s0 G own nm cc nL ret tab d w0 Qr pc lv (zv s0 2 x :: st) w :=
  rt_pop hd zv_cat2 k
theorem z_pop2L {x : Int} (hd : decode cc pc = .ok (.pop2, 1)) (k : rt_Go l s0 G own nm cc nL ret tab d w0 Qr (pc + 1) lv st w) : rt_Go l s0 G own nm cc nL ret tab d w0 Qr pc lv (zv s0 1 x :: st) w :=
  rt_pop2 hd rfl k
theorem z_dup2L {x : Int} (hd : decode cc pc = .ok (.dup2, 1)) (k : rt_Go l s0 G own nm cc nL ret tab d w0 Qr (pc + 1) lv (zv s0 1 x :: zv s0 1 x :: st) w) : rt_Go l s0 G own nm cc nL ret tab d w0 Qr pc lv (zv s0 1 x :: st) w :=
  rt_dup2L hd rfl k
theorem z_dupp {x y : Int} (hd : decode cc pc = .ok (.dup2, 1)) (k : rt_Go l s0 G own nm cc nL ret tab d w0 Qr (pc + 1) lv (zv s0 0 x :: zv s0 2 y :: zv s0 0 x :: zv s0 2 y :: st) w) : rt_Go l s0 G own nm cc nL ret tab d w0 Qr pc lv (zv s0 0 x :: zv s0 2 y :: st) w :=
  rt_dup2 hd rfl zv_cat2 k
theorem z_dup_x1 {x y : Int} (hd : decode cc pc = .ok (.dup_x1, 1)) (k : rt_Go l s0 G own nm cc nL ret tab d w0 Qr (pc + 1) lv (zv s0 0 x :: zv s0 2 y :: zv s0 0 x :: st) w) : rt_Go l s0 G own nm cc nL ret tab d w0 Qr pc lv (zv s0 0 x :: zv s0 2 y :: st) w :=
  rt_dup_x1 hd rfl zv_cat2 k
theorem z_icmp_eq {x y x' y' : Int} {off : Int} {tgt : Nat} (hx : w32 x = x') (hy : w32 y = y') (hd : decode cc pc = .ok (.if_icmp .eq off, 3)) (ht : (pc : Int) + off = (tgt : Int)) (kt : x' = y' → rt_Go l s0 G own nm cc nL ret tab d w0 Qr tgt lv st w) (kf : ¬ x' = y' → rt_Go l s0 G own nm cc nL ret tab d w0 Qr (pc + 3) lv st w) : rt_Go l s0 G own nm cc nL ret tab d w0 Qr pc lv (zv s0 0 y :: zv s0 0 x :: st) w :=
  rt_icmp_eq hd ht (fun h => kt (hx.symm.trans (((z_eq x y).mp h).trans hy))) (fun h => kf (fun e => h ((z_eq x y).mpr (hx.trans (e.trans hy.symm)))))
theorem z_if_eq {x x' : Int} {off : Int} {tgt : Nat} (hx : w32 x = x') (hd : decode cc pc = .ok (.ifCond .eq off, 3)) (ht : (pc : Int) + off = (tgt : Int)) (kt : x' = 0 → rt_Go l s0 G own nm cc nL ret tab d w0 Qr tgt lv st w) (kf : ¬ x' = 0 → rt_Go l s0 G own nm cc nL ret tab d w0 Qr (pc + 3) lv st w) : rt_Go l s0 G own nm cc nL ret tab d w0 Qr pc lv (zv s0 0 x :: st) w := by
  have hy0 : w32 0 = 0 := by decide
  exact rt_if_eq hd ht (fun h => kt (hx.symm.trans (((z_eq x 0).mp h).trans hy0))) (fun h => kf (fun e => h ((z_eq x 0).mpr (hx.trans (e.trans hy0.symm)))))
theorem z_icmp_ne {x y x' y' : Int} {off : Int} {tgt : Nat} (hx : w32 x = x') (hy : w32 y = y') (hd : decode cc pc = .ok (.if_icmp .ne off, 3)) (ht : (pc : Int) + off = (tgt : Int)) (kt : ¬ x' = y' → rt_Go l s0 G own nm cc nL ret tab d w0 Qr tgt lv st w) (kf : x' = y' → rt_Go l s0 G own nm cc nL ret tab d w0 Qr (pc + 3) lv st w) : rt_Go l s0 G own nm cc nL ret tab d w0 Qr pc lv (zv s0 0 y :: zv s0 0 x :: st) w :=
  rt_icmp_ne hd ht (fun h => kt (fun e => h ((z_eq x y).mpr (hx.trans (e.trans hy.symm))))) (fun h => kf (hx.symm.trans (((z_eq x y).mp h).trans hy)))
theorem z_if_ne {x x' : Int} {off : Int} {tgt : Nat} (hx : w32 x = x') (hd : decode cc pc = .ok (.ifCond .ne off, 3)) (ht : (pc : Int) + off = (tgt : Int)) (kt : ¬ x' = 0 → rt_Go l s0 G own nm cc nL ret tab d w0 Qr tgt lv st w) (kf : x' = 0 → rt_Go l s0 G own nm cc nL ret tab d w0 Qr (pc + 3) lv st w) : rt_Go l s0 G own nm cc nL ret tab d w0 Qr pc lv (zv s0 0 x :: st) w := by
  have hy0 : w32 0 = 0 := by decide
  exact rt_if_ne hd ht (fun h => kt (fun e => h ((z_eq x 0).mpr (hx.trans (e.trans hy0.symm))))) (fun h => kf (hx.symm.trans (((z_eq x 0).mp h).trans hy0)))
theorem z_icmp_lt {x y x' y' : Int} {off : Int} {tgt : Nat} (hx : w32 x = x') (hy : w32 y = y') (hd : decode cc pc = .ok (.if_icmp .lt off, 3)) (ht : (pc : Int) + off = (tgt : Int)) (kt : x' < y' → rt_Go l s0 G own nm cc nL ret tab d w0 Qr tgt lv st w) (kf : ¬ x' < y' → rt_Go l s0 G own nm cc nL ret tab d w0 Qr (pc + 3) lv st w) : rt_Go l s0 G own nm cc nL ret tab d w0 Qr pc lv (zv s0 0 y :: zv s0 0 x :: st) w :=
  rt_icmp_lt hd ht (fun h => kt (by have h9 := (z_lt x y).mp h; rw [hx, hy] at h9; exact h9)) (fun h => kf (fun e => h ((z_lt x y).mpr (by rw [hx, hy]; exact e))))
theorem z_if_lt {x x' : Int} {off : Int} {tgt : Nat} (hx : w32 x = x') (hd : decode cc pc = .ok (.ifCond .lt off, 3)) (ht : (pc : Int) + off = (tgt : Int)) (kt : x' < 0 → rt_Go l s0 G own nm cc nL ret tab d w0 Qr tgt lv st w) (kf : ¬ x' < 0 → rt_Go l s0 G own nm cc nL ret tab d w0 Qr (pc + 3) lv st w) : rt_Go l s0 G own nm cc nL ret tab d w0 Qr pc lv (zv s0 0 x :: st) w := by
  have hy0 : w32 0 = 0 := by decide
  exact rt_if_lt hd ht (fun h => kt (by have h9 := (z_lt x 0).mp h; rw [hx, hy0] at h9; exact h9)) (fun h => kf (fun e => h ((z_lt x 0).mpr (by rw [hx, hy0]; exact e))))
theorem z_icmp_ge {x y x' y' : Int} {off : Int} {tgt : Nat} (hx : w32 x = x') (hy : w32 y = y') (hd : decode cc pc = .ok (.if_icmp .ge off, 3)) (ht : (pc : Int) + off = (tgt : Int)) (kt : y' ≤ x' → rt_Go l s0 G own nm cc nL ret tab d w0 Qr tgt lv st w) (kf : ¬ y' ≤ x' → rt_Go l s0 G own nm cc nL ret tab d w0 Qr (pc + 3) lv st w) : rt_Go l s0 G own nm cc nL ret tab d w0 Qr pc lv (zv s0 0 y :: zv s0 0 x :: st) w :=
  rt_icmp_ge hd ht (fun h => kt (by have h9 := (z_le y x).mp h; rw [hx, hy] at h9; exact h9)) (fun h => kf (fun e => h ((z_le y x).mpr (by rw [hx, hy]; exact e))))
theorem z_if_ge {x x' : Int} {off : Int} {tgt : Nat} (hx : w32 x = x') (hd : decode cc pc = .ok (.ifCond .ge off, 3)) (ht : (pc : Int) + off = (tgt : Int)) (kt : 0 ≤ x' → rt_Go l s0 G own nm cc nL ret tab d w0 Qr tgt lv st w) (kf : ¬ 0 ≤ x' → rt_Go l s0 G own nm cc nL ret tab d w0 Qr (pc + 3) lv st w) : rt_Go l s0 G own nm cc nL ret tab d w0 Qr pc lv (zv s0 0 x :: st) w := by
  have hy0 : w32 0 = 0 := by decide
  exact rt_if_ge hd ht (fun h => kt (by have h9 := (z_le 0 x).mp h; rw [hx, hy0] at h9; exact h9)) (fun h => kf (fun e => h ((z_le 0 x).mpr (by rw [hx, hy0]; exact e))))
theorem z_icmp_gt {x y x' y' : Int} {off : Int} {tgt : Nat} (hx : w32 x = x') (hy : w32 y = y') (hd : decode cc pc = .ok (.if_icmp .gt off, 3)) (ht : (pc : Int) + off = (tgt : Int)) (kt : y' < x' → rt_Go l s0 G own nm cc nL ret tab d w0 Qr tgt lv st w) (kf : ¬ y' < x' → rt_Go l s0 G own nm cc nL ret tab d w0 Qr (pc + 3) lv st w) : rt_Go l s0 G own nm cc nL ret tab d w0 Qr pc lv (zv s0 0 y :: zv s0 0 x :: st) w :=
  rt_icmp_gt hd ht (fun h => kt (by have h9 := (z_lt y x).mp h; rw [hx, hy] at h9; exact h9)) (fun h => kf (fun e => h ((z_lt y x).mpr (by rw [hx, hy]; exact e))))
theorem z_if_gt {x x' : Int} {off : Int} {tgt : Nat} (hx : w32 x = x') (hd : decode cc pc = .ok (.ifCond .gt off, 3)) (ht : (pc : Int) + off = (tgt : Int)) (kt : 0 < x' → rt_Go l s0 G own nm cc nL ret tab d w0 Qr tgt lv st w) (kf : ¬ 0 < x' → rt_Go l s0 G own nm cc nL ret tab d w0 Qr (pc + 3) lv st w) : rt_Go l s0 G own nm cc nL ret tab d w0 Qr pc lv (zv s0 0 x :: st) w := by
  have hy0 : w32 0 = 0 := by decide
  exact rt_if_gt hd ht (fun h => kt (by have h9 := (z_lt 0 x).mp h; rw [hx, hy0] at h9; exact h9)) (fun h => kf (fun e => h ((z_lt 0 x).mpr (by rw [hx, hy0]; exact e))))
theorem z_icmp_le {x y x' y' : Int} {off : Int} {tgt : Nat} (hx : w32 x = x') (hy : w32 y = y') (hd : decode cc pc = .ok (.if_icmp .le off, 3)) (ht : (pc : Int) + off = (tgt : Int)) (kt : x' ≤ y' → rt_Go l s0 G own nm cc nL ret tab d w0 Qr tgt lv st w) (kf : ¬ x' ≤ y' → rt_Go l s0 G own nm cc nL ret tab d w0 Qr (pc + 3) lv st w) : rt_Go l s0 G own nm cc nL ret tab d w0 Qr pc lv (zv s0 0 y :: zv s0 0 x :: st) w :=
  rt_icmp_le hd ht (fun h => kt (by have h9 := (z_le x y).mp h; rw [hx, hy] at h9; exact h9)) (fun h => kf (fun e => h ((z_le x y).mpr (by rw [hx, hy]; exact e))))
theorem z_if_le {x x' : Int} {off : Int} {tgt : Nat} (hx : w32 x = x') (hd : decode cc pc = .ok (.ifCond .le off, 3)) (ht : (pc : Int) + off = (tgt : Int)) (kt : x' ≤ 0 → rt_Go l s0 G own nm cc nL ret tab d w0 Qr tgt lv st w) (kf : ¬ x' ≤ 0 → rt_Go l s0 G own nm cc nL ret tab d w0 Qr (pc + 3) lv st w) : rt_Go l s0 G own nm cc nL ret tab d w0 Qr pc lv (zv s0 0 x :: st) w := by
  have hy0 : w32 0 = 0 := by decide
  exact rt_if_le hd ht (fun h => kt (by have h9 := (z_le x 0).mp h; rw [hx, hy0] at h9; exact h9)) (fun h => kf (fun e => h ((z_le x 0).mpr (by rw [hx, hy0]; exact e))))
theorem z_ifnull {x : Int} {off : Int} {tgt : Nat} (hd : decode cc pc = .ok (.ifnull off, 3)) (ht : (pc : Int) + off = (tgt : Int)) (kt : x < 0 → rt_Go l s0 G own nm cc nL ret tab d w0 Qr tgt lv st w) (kf : ¬ x < 0 → rt_Go l s0 G own nm cc nL ret tab d w0 Qr (pc + 3) lv st w) : rt_Go l s0 G own nm cc nL ret tab d w0 Qr pc lv (zv s0 2 x :: st) w := by
  by_cases h : x < 0
  · rw [zv_null h]
    exact rt_ifnullN hd ht (kt h)
  · rw [zv_ref (by omega)]
    exact rt_ifnull hd (kf h)
theorem z_ifnonnull {x : Int} {off : Int} {tgt : Nat} (hd : decode cc pc = .ok (.ifnonnull off, 3)) (ht : (pc : Int) + off = (tgt : Int)) (kt : ¬ x < 0 → rt_Go l s0 G own nm cc nL ret tab d w0 Qr tgt lv st w) (kf : x < 0 → rt_Go l s0 G own nm cc nL ret tab d w0 Qr (pc + 3) lv st w) : rt_Go l s0 G own nm cc nL ret tab d w0 Qr pc lv (zv s0 2 x :: st) w := by
  by_cases h : x < 0
  · rw [zv_null h]
    exact rt_ifnonnullN hd (kf h)
  · rw [zv_ref (by omega)]
    exact rt_ifnonnull hd ht (kt h)
def zcmp (x y : Int) : Int := if w64 x < w64 y then -1 else if w64 x = w64 y then 0 else 1
theorem z_lcmp {x y : Int} (hd : decode cc pc = .ok (.lcmp, 1)) (k : rt_Go l s0 G own nm cc nL ret tab d w0 Qr (pc + 1) lv (zv s0 0 (zcmp x y) :: st) w) : rt_Go l s0 G own nm cc nL ret tab d w0 Qr pc lv (zv s0 1 y :: zv s0 1 x :: st) w := by
  refine rt_lcmp hd ?_
  have e : Value.int (lg_cmp (Int64.ofInt x) (Int64.ofInt y)) = zv s0 0 (zcmp x y) := by
    refine congrArg Value.int ?_
    unfold lg_cmp zcmp
    simp only [gt_iff_lt, z_lt64, z_eq64]
    by_cases h1 : w64 y < w64 x
    · rw [if_pos h1, if_neg (by omega), if_neg (by omega)]; rfl
    · by_cases h2 : w64 x = w64 y
      · rw [if_neg h1, if_pos h2, if_neg (by omega), if_pos h2]; rfl
      · rw [if_neg h1, if_neg h2, if_pos (by omega)]; rfl
  exact e ▸ k
theorem z_lif_eq {x y x' y' : Int} {off : Int} {tgt : Nat} (hx : w64 x = x') (hy : w64 y = y') (hd0 : decode cc pc = .ok (.lcmp, 1)) (hd : decode cc (pc + 1) = .ok (.ifCond .eq off, 3)) (ht : ((pc + 1 : Nat) : Int) + off = (tgt : Int)) (kt : x' = y' → rt_Go l s0 G own nm cc nL ret tab d w0 Qr tgt lv st w) (kf : ¬ x' = y' → rt_Go l s0 G own nm cc nL ret tab d w0 Qr (pc + 4) lv st w) : rt_Go l s0 G own nm cc nL ret tab d w0 Qr pc lv (zv s0 1 y :: zv s0 1 x :: st) w := by
  subst hx
  subst hy
  have e : w32 (zcmp x y) = zcmp x y := by
    unfold zcmp
    split
    · rfl
    · split <;> rfl
  refine z_lcmp hd0 (z_if_eq e hd ht (fun h => kt ?_) (fun h => kf ?_))
  all_goals
    revert h
    unfold zcmp
    split
    · intros; omega
    · split <;> intros <;> omega
theorem z_lif_ne {x y x' y' : Int} {off : Int} {tgt : Nat} (hx : w64 x = x') (hy : w64 y = y') (hd0 : decode cc pc = .ok (.lcmp, 1)) (hd : decode cc (pc + 1) = .ok (.ifCond .ne off, 3)) (ht : ((pc + 1 : Nat) : Int) + off = (tgt : Int)) (kt : ¬ x' = y' → rt_Go l s0 G own nm cc nL ret tab d w0 Qr tgt lv st w) (kf : x' = y' → rt_Go l s0 G own nm cc nL ret tab d w0 Qr (pc + 4) lv st w) : rt_Go l s0 G own nm cc nL ret tab d w0 Qr pc lv (zv s0 1 y :: zv s0 1 x :: st) w := by
  subst hx
  subst hy
  have e : w32 (zcmp x y) = zcmp x y := by
    unfold zcmp
    split
    · rfl
    · split <;> rfl
  refine z_lcmp hd0 (z_if_ne e hd ht (fun h => kt ?_) (fun h => kf ?_))
  all_goals
    revert h
    unfold zcmp
    split
    · intros; omega
    · split <;> intros <;> omega
theorem z_lif_lt {x y x' y' : Int} {off : Int} {tgt : Nat} (hx : w64 x = x') (hy : w64 y = y') (hd0 : decode cc pc = .ok (.lcmp, 1)) (hd : decode cc (pc + 1) = .ok (.ifCond .lt off, 3)) (ht : ((pc + 1 : Nat) : Int) + off = (tgt : Int)) (kt : x' < y' → rt_Go l s0 G own nm cc nL ret tab d w0 Qr tgt lv st w) (kf : ¬ x' < y' → rt_Go l s0 G own nm cc nL ret tab d w0 Qr (pc + 4) lv st w) : rt_Go l s0 G own nm cc nL ret tab d w0 Qr pc lv (zv s0 1 y :: zv s0 1 x :: st) w := by
  subst hx
  subst hy
  have e : w32 (zcmp x y) = zcmp x y := by
    unfold zcmp
    split
    · rfl
    · split <;> rfl
  refine z_lcmp hd0 (z_if_lt e hd ht (fun h => kt ?_) (fun h => kf ?_))
  all_goals
    revert h
    unfold zcmp
    split
    · intros; omega
    · split <;> intros <;> omega
theorem z_lif_ge {x y x' y' : Int} {off : Int} {tgt : Nat} (hx : w64 x = x') (hy : w64 y = y') (hd0 : decode cc pc = .ok (.lcmp, 1)) (hd : decode cc (pc + 1) = .ok (.ifCond .ge off, 3)) (ht : ((pc + 1 : Nat) : Int) + off = (tgt : Int)) (kt : y' ≤ x' → rt_Go l s0 G own nm cc nL ret tab d w0 Qr tgt lv st w) (kf : ¬ y' ≤ x' → rt_Go l s0 G own nm cc nL ret tab d w0 Qr (pc + 4) lv st w) : rt_Go l s0 G own nm cc nL ret tab d w0 Qr pc lv (zv s0 1 y :: zv s0 1 x :: st) w := by
  subst hx
  subst hy
  have e : w32 (zcmp x y) = zcmp x y := by
    unfold zcmp
    split
    · rfl
    · split <;> rfl
  refine z_lcmp hd0 (z_if_ge e hd ht (fun h => kt ?_) (fun h => kf ?_))
  all_goals
    revert h
    unfold zcmp
    split
    · intros; omega
    · split <;> intros <;> omega
theorem z_lif_gt {x y x' y' : Int} {off : Int} {tgt : Nat} (hx : w64 x = x') (hy : w64 y = y') (hd0 : decode cc pc = .ok (.lcmp, 1)) (hd : decode cc (pc + 1) = .ok (.ifCond .gt off, 3)) (ht : ((pc + 1 : Nat) : Int) + off = (tgt : Int)) (kt : y' < x' → rt_Go l s0 G own nm cc nL ret tab d w0 Qr tgt lv st w) (kf : ¬ y' < x' → rt_Go l s0 G own nm cc nL ret tab d w0 Qr (pc + 4) lv st w) : rt_Go l s0 G own nm cc nL ret tab d w0 Qr pc lv (zv s0 1 y :: zv s0 1 x :: st) w := by
  subst hx
  subst hy
  have e : w32 (zcmp x y) = zcmp x y := by
    unfold zcmp
    split
    · rfl
    · split <;> rfl
  refine z_lcmp hd0 (z_if_gt e hd ht (fun h => kt ?_) (fun h => kf ?_))
  all_goals
    revert h
    unfold zcmp
    split
    · intros; omega
    · split <;> intros <;> omega
theorem z_lif_le {x y x' y' : Int} {off : Int} {tgt : Nat} (hx : w64 x = x') (hy : w64 y = y') (hd0 : decode cc pc = .ok (.lcmp, 1)) (hd : decode cc (pc + 1) = .ok (.ifCond .le off, 3)) (ht : ((pc + 1 : Nat) : Int) + off = (tgt : Int)) (kt : x' ≤ y' → rt_Go l s0 G own nm cc nL ret tab d w0 Qr tgt lv st w) (kf : ¬ x' ≤ y' → rt_Go l s0 G own nm cc nL ret tab d w0 Qr (pc + 4) lv st w) : rt_Go l s0 G own nm cc nL ret tab d w0 Qr pc lv (zv s0 1 y :: zv s0 1 x :: st) w := by
  subst hx
  subst hy
  have e : w32 (zcmp x y) = zcmp x y := by
    unfold zcmp
    split
    · rfl
    · split <;> rfl
  refine z_lcmp hd0 (z_if_le e hd ht (fun h => kt ?_) (fun h => kf ?_))
  all_goals
    revert h
    unfold zcmp
    split
    · intros; omega
    · split <;> intros <;> omega
theorem z_iinc {i j : Nat} {n x : Int} (hd : decode cc pc = .ok (.iinc i n, 3)) (hj : lv[j]? = some (i, zv s0 0 x)) (hn : i < nL) (hl : (i, zv s0 0 (x + n)) :: lv.filter (fun q => !(q.1 == i) && !(q.1 + 1 == i && q.2.category == 2)) = lv') (k : rt_Go l s0 G own nm cc nL ret tab d w0 Qr (pc + 3) lv' st w) : rt_Go l s0 G own nm cc nL ret tab d w0 Qr pc lv st w :=
  rt_iinc hd hj (Int32.ofInt_add x n).symm hn hl k
theorem z_get (Γ : rt_Γ l s0 a0 G ca) {index ci k : Nat} {a : Int} {tys : List (Nat × Int)} {t9 : Nat} {c9 : Int} (F : rt_Fd own index ci k) (hd : decode cc pc = .ok (.getfield index, 3)) (h0 : 0 ≤ a) (hS : S a = some (0, ci, tys)) (hk : tys[k]? = some (t9, c9)) (ht : t9 ≠ 3) {v9 : Int} (hv : M a (k : Int) = v9) (kk : rt_Go l s0 G own nm cc nL ret tab d w0 Qr (pc + 3) lv (zv s0 t9 v9 :: st) (zw s0 ca C S M)) : rt_Go l s0 G own nm cc nL ret tab d w0 Qr pc lv (zv s0 2 a :: st) (zw s0 ca C S M) := by
  rw [zv_ref h0]
  refine rt_get Γ F hd (zw_at h0 hS) (zfs_get hk) ?_
  unfold zft zfx
  rw [if_neg ht, if_neg ht, Nat.zero_add, hv]
  exact kk
theorem z_getc (Γ : rt_Γ l s0 a0 G ca) {index ci k : Nat} {a : Int} {tys : List (Nat × Int)} {c9 : Int} (F : rt_Fd own index ci k) (hd : decode cc pc = .ok (.getfield index, 3)) (h0 : 0 ≤ a) (hS : S a = some (0, ci, tys)) (hk : tys[k]? = some (3, c9)) (kk : rt_Go l s0 G own nm cc nL ret tab d w0 Qr (pc + 3) lv (zv s0 2 c9 :: st) (zw s0 ca C S M)) : rt_Go l s0 G own nm cc nL ret tab d w0 Qr pc lv (zv s0 2 a :: st) (zw s0 ca C S M) := by
  rw [zv_ref h0]
  exact rt_get Γ F hd (zw_at h0 hS) (zfs_get hk) kk
theorem z_getN (Γ : rt_Γ l s0 a0 G ca) {index ci k : Nat} {a : Int} {tys : List (Nat × Int)} {t9 : Nat} {c9 : Int} (F : rt_FdN own index ci k) (hd : decode cc pc = .ok (.getfield index, 3)) (h0 : 0 ≤ a) (hS : S a = some (0, ci, tys)) (hk : tys[k]? = some (t9, c9)) (ht : t9 ≠ 3) {v9 : Int} (hv : M a (k : Int) = v9) (kk : rt_Go l s0 G own nm cc nL ret tab d w0 Qr (pc + 3) lv (zv s0 t9 v9 :: st) (zw s0 ca C S M)) : rt_Go l s0 G own nm cc nL ret tab d w0 Qr pc lv (zv s0 2 a :: st) (zw s0 ca C S M) := by
  rw [zv_ref h0]
  refine rt_getN Γ F hd (zw_at h0 hS) (zfs_get hk) ?_
  unfold zft zfx
  rw [if_neg ht, if_neg ht, Nat.zero_add, hv]
  exact kk
theorem z_getcN (Γ : rt_Γ l s0 a0 G ca) {index ci k : Nat} {a : Int} {tys : List (Nat × Int)} {c9 : Int} (F : rt_FdN own index ci k) (hd : decode cc pc = .ok (.getfield index, 3)) (h0 : 0 ≤ a) (hS : S a = some (0, ci, tys)) (hk : tys[k]? = some (3, c9)) (kk : rt_Go l s0 G own nm cc nL ret tab d w0 Qr (pc + 3) lv (zv s0 2 c9 :: st) (zw s0 ca C S M)) : rt_Go l s0 G own nm cc nL ret tab d w0 Qr pc lv (zv s0 2 a :: st) (zw s0 ca C S M) := by
  rw [zv_ref h0]
  exact rt_getN Γ F hd (zw_at h0 hS) (zfs_get hk) kk
theorem z_put0 (Γ : rt_Γ l s0 a0 G ca) {index ci k : Nat} {a v : Int} {tys : List (Nat × Int)} {c9 : Int} (F : rt_Fp own nm index ci k .int) (hd : decode cc pc = .ok (.putfield index, 3)) (h0 : 0 ≤ a) (hS : S a = some (0, ci, tys)) (hk : tys[k]? = some (0, c9)) {k9 : Int} (hk9 : (k : Int) = k9) (kk : rt_Go l s0 G own nm cc nL ret tab d w0 Qr (pc + 3) lv st (zw s0 ca C S (zu M a k9 v))) : rt_Go l s0 G own nm cc nL ret tab d w0 Qr pc lv (zv s0 0 v :: zv s0 2 a :: st) (zw s0 ca C S M) := by
  subst hk9
  rw [zv_ref h0]
  refine rt_put Γ F hd (zw_at h0 hS) (by rw [zfs_len]; exact (List.getElem?_eq_some_iff.mp hk).1) rfl rfl (zfs_set (tc := (0, c9)) hk (show (0 : Nat) ≠ 3 by decide)) ?_
  rw [zw_up (M' := zu M a (k : Int) v) h0 hS ?_ (fun b hb => funext fun j => zu_a hb)]
  · exact kk
  · show Sum.inr (ci, zfs s0 (zu M a (k : Int) v a) 0 tys) = _
    rw [Nat.zero_add]
    congr 3
    funext j
    unfold zu
    simp
theorem z_put2 (Γ : rt_Γ l s0 a0 G ca) {index ci k : Nat} {a v : Int} {tys : List (Nat × Int)} {c9 : Int} {cls : String} (F : rt_Fp own nm index ci k (.object cls)) (hd : decode cc pc = .ok (.putfield index, 3)) (h0 : 0 ≤ a) (hS : S a = some (0, ci, tys)) (hk : tys[k]? = some (2, c9)) {k9 : Int} (hk9 : (k : Int) = k9) (kk : rt_Go l s0 G own nm cc nL ret tab d w0 Qr (pc + 3) lv st (zw s0 ca C S (zu M a k9 v))) : rt_Go l s0 G own nm cc nL ret tab d w0 Qr pc lv (zv s0 2 v :: zv s0 2 a :: st) (zw s0 ca C S M) := by
  subst hk9
  rw [zv_ref h0]
  have e1 : narrow (.object cls) (zv s0 2 v) = zv s0 2 v := by
    by_cases h : v < 0
    · rw [zv_null h]; rfl
    · rw [zv_ref (by omega)]; rfl
  have e2 : fits (.object cls) (zv s0 2 v) = true := by
    by_cases h : v < 0
    · rw [zv_null h]; rfl
    · rw [zv_ref (by omega)]; rfl
  refine rt_put Γ F hd (zw_at h0 hS) (by rw [zfs_len]; exact (List.getElem?_eq_some_iff.mp hk).1) e1 e2 (zfs_set (tc := (2, c9)) hk (show (2 : Nat) ≠ 3 by decide)) ?_
  rw [zw_up (M' := zu M a (k : Int) v) h0 hS ?_ (fun b hb => funext fun j => zu_a hb)]
  · exact kk
  · show Sum.inr (ci, zfs s0 (zu M a (k : Int) v a) 0 tys) = _
    rw [Nat.zero_add]
    congr 3
    funext j
    unfold zu
    simp
theorem z_in {i : Int} {n : Nat} (h : 0 ≤ i ∧ i < (n : Int)) (hn : n < 2147483648) : vp_in (Int32.ofInt i) n ∧ (Int32.ofInt i).toNatClampNeg = i.toNat := by
  have e : (Int32.ofInt i).toNatClampNeg = i.toNat := Int32.toNatClampNeg_ofInt_of_le (by omega) (by omega)
  refine ⟨?_, e⟩
  unfold vp_in
  rw [e]
  rintro (c | c)
  · have c9 := (z_lt i 0).mp c
    rw [w32_id (by omega) (by omega)] at c9
    have : w32 0 = 0 := by decide
    omega
  · omega
theorem z_iald (Γ : rt_Γ l s0 a0 G ca) {n : Nat} {a i : Int} {tys : List (Nat × Int)} (hd : decode cc pc = .ok (.iaload, 1)) (h0 : 0 ≤ a) (hS : S a = some (1, n, tys)) (hn : n < 2147483648) (hi : 0 ≤ i ∧ i < (n : Int)) {v9 : Int} (hv : M a i = v9) (kk : rt_Go l s0 G own nm cc nL ret tab d w0 Qr (pc + 1) lv (zv s0 0 v9 :: st) (zw s0 ca C S M)) : rt_Go l s0 G own nm cc nL ret tab d w0 Qr pc lv (zv s0 0 i :: zv s0 2 a :: st) (zw s0 ca C S M) := by
  subst hv
  rw [zv_ref h0]
  refine rt_iald Γ hd (zw_at h0 hS) (z_in hi hn).1 ?_
  rw [(z_in hi hn).2]
  show rt_Go _ _ _ _ _ _ _ _ _ _ _ _ _ _ ((zv s0 0 (M a (i.toNat : Int))) :: st) _
  rw [Int.toNat_of_nonneg hi.1]
  exact kk
theorem z_bald (Γ : rt_Γ l s0 a0 G ca) {n : Nat} {a i : Int} {tys : List (Nat × Int)} (hd : decode cc pc = .ok (.baload, 1)) (h0 : 0 ≤ a) (hS : S a = some (2, n, tys)) (hn : n < 2147483648) (hi : 0 ≤ i ∧ i < (n : Int)) {v9 : Int} (hv : M a i = v9) (kk : rt_Go l s0 G own nm cc nL ret tab d w0 Qr (pc + 1) lv (zv s0 0 v9 :: st) (zw s0 ca C S M)) : rt_Go l s0 G own nm cc nL ret tab d w0 Qr pc lv (zv s0 0 i :: zv s0 2 a :: st) (zw s0 ca C S M) := by
  subst hv
  rw [zv_ref h0]
  refine rt_bald Γ hd (zw_at h0 hS) (z_in hi hn).1 ?_
  rw [(z_in hi hn).2]
  show rt_Go _ _ _ _ _ _ _ _ _ _ _ _ _ _ ((zv s0 0 (M a (i.toNat : Int))) :: st) _
  rw [Int.toNat_of_nonneg hi.1]
  exact kk
theorem z_lald (Γ : rt_Γ l s0 a0 G ca) {n : Nat} {a i : Int} {tys : List (Nat × Int)} (hd : decode cc pc = .ok (.laload, 1)) (h0 : 0 ≤ a) (hS : S a = some (3, n, tys)) (hn : n < 2147483648) (hi : 0 ≤ i ∧ i < (n : Int)) {v9 : Int} (hv : M a i = v9) (kk : rt_Go l s0 G own nm cc nL ret tab d w0 Qr (pc + 1) lv (zv s0 1 v9 :: st) (zw s0 ca C S M)) : rt_Go l s0 G own nm cc nL ret tab d w0 Qr pc lv (zv s0 0 i :: zv s0 2 a :: st) (zw s0 ca C S M) := by
  subst hv
  rw [zv_ref h0]
  refine rt_lald Γ hd (zw_at h0 hS) (z_in hi hn).1 ?_
  rw [(z_in hi hn).2]
  show rt_Go _ _ _ _ _ _ _ _ _ _ _ _ _ _ ((zv s0 1 (M a (i.toNat : Int))) :: st) _
  rw [Int.toNat_of_nonneg hi.1]
  exact kk
theorem z_zald (Γ : rt_Γ l s0 a0 G ca) {n : Nat} {a i : Int} {tys : List (Nat × Int)} (hd : decode cc pc = .ok (.baload, 1)) (h0 : 0 ≤ a) (hS : S a = some (4, n, tys)) (hn : n < 2147483648) (hi : 0 ≤ i ∧ i < (n : Int)) {v9 : Int} (hv : M a i = v9) (kk : rt_Go l s0 G own nm cc nL ret tab d w0 Qr (pc + 1) lv (zv s0 0 v9 :: st) (zw s0 ca C S M)) : rt_Go l s0 G own nm cc nL ret tab d w0 Qr pc lv (zv s0 0 i :: zv s0 2 a :: st) (zw s0 ca C S M) := by
  subst hv
  rw [zv_ref h0]
  refine rt_zald Γ hd (zw_at h0 hS) (z_in hi hn).1 ?_
  rw [(z_in hi hn).2]
  show rt_Go _ _ _ _ _ _ _ _ _ _ _ _ _ _ ((zv s0 0 (M a (i.toNat : Int))) :: st) _
  rw [Int.toNat_of_nonneg hi.1]
  exact kk
theorem z_aald (Γ : rt_Γ l s0 a0 G ca) {n : Nat} {a i : Int} {tys : List (Nat × Int)} (hd : decode cc pc = .ok (.aaload, 1)) (h0 : 0 ≤ a) (hS : S a = some (5, n, tys)) (hn : n < 2147483648) (hi : 0 ≤ i ∧ i < (n : Int)) {v9 : Int} (hv : M a i = v9) (kk : rt_Go l s0 G own nm cc nL ret tab d w0 Qr (pc + 1) lv (zv s0 2 v9 :: st) (zw s0 ca C S M)) : rt_Go l s0 G own nm cc nL ret tab d w0 Qr pc lv (zv s0 0 i :: zv s0 2 a :: st) (zw s0 ca C S M) := by
  subst hv
  rw [zv_ref h0]
  refine rt_aldq Γ hd (zw_at h0 hS) (z_in hi hn).1 ?_
  rw [(z_in hi hn).2, Int.toNat_of_nonneg hi.1]
  have e : va_rf (if M a i < 0 then none else some (s0.heap.size + (M a i).toNat)) = zv s0 2 (M a i) := by
    by_cases h : M a i < 0
    · rw [if_pos h, zv_null h]; rfl
    · rw [if_neg h, zv_ref (by omega)]; rfl
  rw [e]
  exact kk
theorem z_alen (Γ : rt_Γ l s0 a0 G ca) {n : Nat} {a : Int} {tys : List (Nat × Int)} (hd : decode cc pc = .ok (.arraylength, 1)) (h0 : 0 ≤ a) (hS : S a = some (1, n, tys)) (kk : rt_Go l s0 G own nm cc nL ret tab d w0 Qr (pc + 1) lv (zv s0 0 (n : Int) :: st) (zw s0 ca C S M)) : rt_Go l s0 G own nm cc nL ret tab d w0 Qr pc lv (zv s0 2 a :: st) (zw s0 ca C S M) := by
  rw [zv_ref h0]
  exact rt_alen Γ hd (t := 0) (x := (n, .inl (fun j => Int32.ofInt (M a j)))) rfl (zw_at h0 hS) (Int32.ofInt_eq_ofNat).symm kk
theorem z_alenL (Γ : rt_Γ l s0 a0 G ca) {n : Nat} {a : Int} {tys : List (Nat × Int)} (hd : decode cc pc = .ok (.arraylength, 1)) (h0 : 0 ≤ a) (hS : S a = some (3, n, tys)) (kk : rt_Go l s0 G own nm cc nL ret tab d w0 Qr (pc + 1) lv (zv s0 0 (n : Int) :: st) (zw s0 ca C S M)) : rt_Go l s0 G own nm cc nL ret tab d w0 Qr pc lv (zv s0 2 a :: st) (zw s0 ca C S M) := by
  rw [zv_ref h0]
  exact rt_alen Γ hd (t := 2) (x := (n, .inr (.inl (fun j => Int64.ofInt (M a j))))) rfl (zw_at h0 hS) (Int32.ofInt_eq_ofNat).symm kk
theorem z_iast (Γ : rt_Γ l s0 a0 G ca) {n : Nat} {a i x : Int} {tys : List (Nat × Int)} (hd : decode cc pc = .ok (.iastore, 1)) (h0 : 0 ≤ a) (hS : S a = some (1, n, tys)) (hn : n < 2147483648) (hi : 0 ≤ i ∧ i < (n : Int)) (kk : rt_Go l s0 G own nm cc nL ret tab d w0 Qr (pc + 1) lv st (zw s0 ca C S (zu M a i x))) : rt_Go l s0 G own nm cc nL ret tab d w0 Qr pc lv (zv s0 0 x :: zv s0 0 i :: zv s0 2 a :: st) (zw s0 ca C S M) := by
  rw [zv_ref h0]
  refine rt_iast Γ hd (zw_at h0 hS) (z_in hi hn).1 ?_
  rw [zw_up (M' := zu M a i x) h0 hS ?_ (fun b hb => funext fun j => zu_a hb)]
  · exact kk
  · rw [(z_in hi hn).2]
    refine congrArg (fun f => (Sum.inl (_, _, .inl f) : va_E)) (funext fun j => ?_)
    unfold zu upd
    dsimp only
    by_cases hj : j = i.toNat
    · rw [if_pos ⟨rfl, by omega⟩, if_pos hj]
    · rw [if_neg (fun c => hj (by omega)), if_neg hj]
theorem z_nb (x : Int) : vp_nar .byte (Int32.ofInt x) = Int32.ofInt (w8 x) := by
  show (Int32.ofInt x).toInt8.toInt32 = _
  rw [← Int32.toInt_inj, Int8.toInt_toInt32, Int32.toInt8_ofInt, z_toI]
  have := w8_b x
  rw [w32_id (by omega) (by omega)]
  exact Int8.toInt_ofInt
theorem z_bast (Γ : rt_Γ l s0 a0 G ca) {n : Nat} {a i x : Int} {tys : List (Nat × Int)} (hd : decode cc pc = .ok (.bastore, 1)) (h0 : 0 ≤ a) (hS : S a = some (2, n, tys)) (hn : n < 2147483648) (hi : 0 ≤ i ∧ i < (n : Int)) (kk : rt_Go l s0 G own nm cc nL ret tab d w0 Qr (pc + 1) lv st (zw s0 ca C S (zu M a i (w8 x)))) : rt_Go l s0 G own nm cc nL ret tab d w0 Qr pc lv (zv s0 0 x :: zv s0 0 i :: zv s0 2 a :: st) (zw s0 ca C S M) := by
  rw [zv_ref h0]
  refine rt_bast Γ hd (zw_at h0 hS) (z_in hi hn).1 ?_
  rw [zw_up (M' := zu M a i (w8 x)) h0 hS ?_ (fun b hb => funext fun j => zu_a hb)]
  · exact kk
  · rw [(z_in hi hn).2]
    refine congrArg (fun f => (Sum.inl (_, _, .inl f) : va_E)) (funext fun j => ?_)
    unfold zu upd
    dsimp only
    by_cases hj : j = i.toNat
    · rw [if_pos ⟨rfl, by omega⟩, if_pos hj, z_nb]
    · rw [if_neg (fun c => hj (by omega)), if_neg hj]
theorem z_last (Γ : rt_Γ l s0 a0 G ca) {n : Nat} {a i x : Int} {tys : List (Nat × Int)} (hd : decode cc pc = .ok (.lastore, 1)) (h0 : 0 ≤ a) (hS : S a = some (3, n, tys)) (hn : n < 2147483648) (hi : 0 ≤ i ∧ i < (n : Int)) (kk : rt_Go l s0 G own nm cc nL ret tab d w0 Qr (pc + 1) lv st (zw s0 ca C S (zu M a i x))) : rt_Go l s0 G own nm cc nL ret tab d w0 Qr pc lv (zv s0 1 x :: zv s0 0 i :: zv s0 2 a :: st) (zw s0 ca C S M) := by
  rw [zv_ref h0]
  refine rt_last Γ hd (zw_at h0 hS) (z_in hi hn).1 ?_
  rw [zw_up (M' := zu M a i x) h0 hS ?_ (fun b hb => funext fun j => zu_a hb)]
  · exact kk
  · rw [(z_in hi hn).2]
    refine congrArg (fun f => (Sum.inl (_, _, .inr (.inl f)) : va_E)) (funext fun j => ?_)
    unfold zu vp_updL
    dsimp only
    by_cases hj : j = i.toNat
    · rw [if_pos ⟨rfl, by omega⟩, if_pos hj]
    · rw [if_neg (fun c => hj (by omega)), if_neg hj]
theorem z_zast (Γ : rt_Γ l s0 a0 G ca) {n : Nat} {a i x : Int} {tys : List (Nat × Int)} (hd : decode cc pc = .ok (.bastore, 1)) (h0 : 0 ≤ a) (hS : S a = some (4, n, tys)) (hn : n < 2147483648) (hi : 0 ≤ i ∧ i < (n : Int)) (hx : vp_nar .boolean (Int32.ofInt x) = Int32.ofInt x) (kk : rt_Go l s0 G own nm cc nL ret tab d w0 Qr (pc + 1) lv st (zw s0 ca C S (zu M a i x))) : rt_Go l s0 G own nm cc nL ret tab d w0 Qr pc lv (zv s0 0 x :: zv s0 0 i :: zv s0 2 a :: st) (zw s0 ca C S M) := by
  rw [zv_ref h0]
  refine rt_zast Γ hd (zw_at h0 hS) (z_in hi hn).1 ?_
  rw [zw_up (M' := zu M a i x) h0 hS ?_ (fun b hb => funext fun j => zu_a hb)]
  · exact kk
  · rw [(z_in hi hn).2, hx]
    refine congrArg (fun f => (Sum.inl (_, _, .inl f) : va_E)) (funext fun j => ?_)
    unfold zu upd
    dsimp only
    by_cases hj : j = i.toNat
    · rw [if_pos ⟨rfl, by omega⟩, if_pos hj]
    · rw [if_neg (fun c => hj (by omega)), if_neg hj]
end ZR
section ZE
variable {l : Launch} {s0 : State} {a0 : Array Value} {G : va_G} {ca : Nat → ClassId} {own nm : String} {cc : ByteArray} {nL : Nat} {ret : Option FieldType} {tab : List ExceptionTableEntry} {d : Nat} {w0 : rt_Wd} {Qr : rt_Res → rt_Wd → Prop} {pc : Nat} {lv : List (Nat × Value)} {st : List Value} {C : Nat × Nat} {S : zS} {M : zM} {t : Nat} {Q : Int → zM → Prop} {X : zM → Prop}
theorem z_iret {v : Int} (hd : decode cc pc = .ok (.ireturn, 1)) (hr : ret = some .int) (hQ : Q v M) : rt_Go l s0 G own nm cc nL ret tab d w0 (zQ s0 ca 0 C S Q X) pc lv [zv s0 0 v] (zw s0 ca C S M) := rt_iret hd hr (Or.inl ⟨v, M, rfl, rfl, hQ⟩)
theorem z_zret {v : Int} (hd : decode cc pc = .ok (.ireturn, 1)) (hr : ret = some .boolean) (hv : v = 0 ∨ v = 1) (hQ : Q v M) : rt_Go l s0 G own nm cc nL ret tab d w0 (zQ s0 ca 0 C S Q X) pc lv [zv s0 0 v] (zw s0 ca C S M) := rt_zret hd hr (by rcases hv with rfl | rfl <;> rfl) (Or.inl ⟨v, M, rfl, rfl, hQ⟩)
theorem z_lret {v : Int} (hd : decode cc pc = .ok (.lreturn, 1)) (hr : ret = some .long) (hQ : Q v M) : rt_Go l s0 G own nm cc nL ret tab d w0 (zQ s0 ca 1 C S Q X) pc lv [zv s0 1 v] (zw s0 ca C S M) := rt_lret hd hr (Or.inl ⟨v, M, rfl, rfl, hQ⟩)
theorem z_vret (hd : decode cc pc = .ok (.return_, 1)) (hr : ret = none) (hQ : Q 0 M) : rt_Go l s0 G own nm cc nL ret tab d w0 (zQ s0 ca 9 C S Q X) pc lv [] (zw s0 ca C S M) := rt_vret hd hr (Or.inl ⟨0, M, rfl, rfl, hQ⟩)
theorem zQ_in {v : Int} (hQ : Q v M) : zQ s0 ca t C S Q X (.inl (zret s0 t v)) (zw s0 ca C S M) := Or.inl ⟨v, M, rfl, rfl, hQ⟩
theorem z_aret {v : Int} {n : String} (hd : decode cc pc = .ok (.areturn, 1)) (hr : ret = some (.object n)) (hQ : Q v M) : rt_Go l s0 G own nm cc nL ret tab d w0 (zQ s0 ca 2 C S Q X) pc lv [zv s0 2 v] (zw s0 ca C S M) := by
  have hq := zQ_in (s0 := s0) (ca := ca) (C := C) (S := S) (t := 2) (X := X) hQ
  have e0 : zret s0 2 v = some (zv s0 2 v) := rfl
  rw [e0] at hq
  by_cases h : v < 0
  · rw [zv_null h] at hq ⊢
    exact rt_aretN hd hr hq
  · rw [zv_ref (by omega)] at hq ⊢
    exact rt_aret hd hr hq
theorem zl_0 {i : Nat} {x : Int} {vs : List Value} : lv_args i (zv s0 0 x :: vs) = (i, zv s0 0 x) :: lv_args (i + 1) vs := rfl
theorem zl_1 {i : Nat} {x : Int} {vs : List Value} : lv_args i (zv s0 1 x :: vs) = (i, zv s0 1 x) :: lv_args (i + 2) vs := rfl
theorem zl_2 {i : Nat} {x : Int} {vs : List Value} : lv_args i (zv s0 2 x :: vs) = (i, zv s0 2 x) :: lv_args (i + 1) vs := by
  show (i, zv s0 2 x) :: lv_args (if (zv s0 2 x).category = 2 then i + 2 else i + 1) vs = _
  rw [zv_cat2]
  rfl
theorem zl_s {i a : Nat} {vs : List Value} : lv_args i (.ref a :: vs) = (i, .ref a) :: lv_args (i + 1) vs := rfl
theorem zn_0 {x : Int} {vs : List Value} : (lg_sl (zv s0 0 x :: vs)).length = 1 + (lg_sl vs).length := by simp [lg_sl, zv, Value.category]; omega
theorem zn_1 {x : Int} {vs : List Value} : (lg_sl (zv s0 1 x :: vs)).length = 2 + (lg_sl vs).length := by simp [lg_sl, zv, Value.category]; omega
theorem zn_2 {x : Int} {vs : List Value} : (lg_sl (zv s0 2 x :: vs)).length = 1 + (lg_sl vs).length := by
  by_cases h : x < 0
  · rw [zv_null h]; simp [lg_sl, Value.category]; omega
  · rw [zv_ref (by omega)]; simp [lg_sl, rt_r, Value.category]; omega
theorem zn_s {a : Nat} {vs : List Value} : (lg_sl (.ref a :: vs)).length = 1 + (lg_sl vs).length := by simp [lg_sl, Value.category]; omega
theorem z_met (Γ : rt_Γ l s0 a0 G ca) {y : MethodName} {kc : Cond} {desc : String} (K : rt_Kc y kc cc nL ret tab) (hy : y = ⟨own, nm, desc⟩) {av : List Value} (hlen : (lg_sl av).length ≤ nL) (hlv : lv_args 0 av = lv) (body : rt_Go l s0 G own nm cc nL ret tab d (zw s0 ca C S M) (zQ s0 ca t C S Q X) 0 lv [] (zw s0 ca C S M)) : zMet l s0 G ca kc y t d av C S M Q X := rt_met Γ K hy hlen hlv body
theorem zc_callV (Γ : rt_Γ l s0 a0 G ca) {y : MethodName} {kc : Cond} {ccY : ByteArray} {nLY : Nat} {retY : Option FieldType} {tabY : List ExceptionTableEntry} (K : rt_Kc y kc ccY nLY retY tabY) {index ci tY : Nat} {cls : String} {T : u_T} {N : Nat} {a : Int} {tys : List (Nat × Int)} (C9 : rt_Cv own index cls y) {d1 : Nat} {As : List Value} {Q1 : Int → zM → Prop} {X1 : zM → Prop} (hM : zMet l s0 G ca kc y tY d1 (zv s0 2 a :: As) C S M Q1 X1) (hd1 : d1 + 1 ≤ d) (hnL : nLY ≤ 18) {stk : List Value} (hlen : (parseMethodDescriptor y.desc).map (fun q => q.parameters.length) = some As.length) (hok : zok C) (hW : (st.map fun v => v.category).sum ≤ 12) (hd : decode cc pc = .ok (.invokevirtual index, 3)) (h0 : 0 ≤ a) (hS : S a = some (0, ci, tys)) (hci : vwCl[ci]? = some (cls, T, N)) (hstk : As.reverse ++ zv s0 2 a :: st = stk)
    (kx : ∀ (n : Nat) (M1 : zM), C.1 ≤ n → n ≤ C.1 + 1 → X1 M1 → rt_Tx l s0 G own nm cc nL ret tab d w0 Qr pc lv zISE (zw s0 ca (n, C.2 + 6) S M1))
    (kr : ∀ (v : Int) (M1 : zM), Q1 v M1 → rt_Go l s0 G own nm cc nL ret tab d w0 Qr (pc + 3) lv ((zret s0 tY v).toList ++ st) (zw s0 ca C S M1)) : rt_Go l s0 G own nm cc nL ret tab d w0 Qr pc lv stk (zw s0 ca C S M) := by
  subst hstk
  rw [zv_ref h0]
  refine rt_callV Γ K C9 hM hd1 hnL hlen ⟨by have := hok.1; show C.1 ≤ _; omega, by have := hok.2; show C.2 ≤ _; omega⟩ hW hd (zw_at h0 hS) hci (by rw [zv_ref h0]) rfl ?_ ?_
  · rintro v w1 (⟨v9, M1, h1, rfl, h3⟩ | ⟨h1, -⟩)
    · cases Sum.inl.inj h1
      exact kr v9 M1 h3
    · cases h1
  · rintro Xn w1 (⟨v9, M1, h1, -⟩ | ⟨h1, n, M1, h2, h3, rfl, h4⟩)
    · cases h1
    · cases Sum.inr.inj h1
      exact kx n M1 h2 h3 h4
theorem z_callV (Γ : rt_Γ l s0 a0 G ca) {y : MethodName} {kc : Cond} {ccY : ByteArray} {nLY : Nat} {retY : Option FieldType} {tabY : List ExceptionTableEntry} (K : rt_Kc y kc ccY nLY retY tabY) {index ci tY : Nat} {cls : String} {T : u_T} {N : Nat} {a : Int} {tys : List (Nat × Int)} (C9 : rt_Cv own index cls y) {d1 : Nat} {As : List Value} {Q1 : Int → zM → Prop} (hM : zMet l s0 G ca kc y tY d1 (zv s0 2 a :: As) C S M Q1 X) (hd1 : d1 + 1 ≤ d) (hnL : nLY ≤ 18) {stk : List Value} (hlen : (parseMethodDescriptor y.desc).map (fun q => q.parameters.length) = some As.length) (hok : zok C) (hW : (st.map fun v => v.category).sum ≤ 12) (hd : decode cc pc = .ok (.invokevirtual index, 3)) (h0 : 0 ≤ a) (hS : S a = some (0, ci, tys)) (hci : vwCl[ci]? = some (cls, T, N)) (hstk : As.reverse ++ zv s0 2 a :: st = stk) (hout : ∀ x ∈ tab, covers x pc = false)
    (kr : ∀ (v : Int) (M1 : zM), Q1 v M1 → rt_Go l s0 G own nm cc nL ret tab d w0 (zQ s0 ca t C S Q X) (pc + 3) lv ((zret s0 tY v).toList ++ st) (zw s0 ca C S M1)) : rt_Go l s0 G own nm cc nL ret tab d w0 (zQ s0 ca t C S Q X) pc lv stk (zw s0 ca C S M) :=
  zc_callV Γ K C9 hM hd1 hnL hlen hok hW hd h0 hS hci hstk (fun n M1 h2 h3 h4 => rt_out hout (Or.inr ⟨rfl, n, M1, h2, h3, rfl, h4⟩)) kr
theorem zc_callVN (Γ : rt_Γ l s0 a0 G ca) {y : MethodName} {kc : Cond} {ccY : ByteArray} {nLY : Nat} {retY : Option FieldType} {tabY : List ExceptionTableEntry} (K : rt_Kc y kc ccY nLY retY tabY) {index ci tY : Nat} {cls : String} {T : u_T} {N : Nat} {a : Int} {tys : List (Nat × Int)} (C9 : rt_CvN own index cls y) {d1 : Nat} {As : List Value} {Q1 : Int → zM → Prop} {X1 : zM → Prop} (hM : zMet l s0 G ca kc y tY d1 (zv s0 2 a :: As) C S M Q1 X1) (hd1 : d1 + 1 ≤ d) (hnL : nLY ≤ 18) {stk : List Value} (hlen : (parseMethodDescriptor y.desc).map (fun q => q.parameters.length) = some As.length) (hok : zok C) (hW : (st.map fun v => v.category).sum ≤ 12) (hd : decode cc pc = .ok (.invokevirtual index, 3)) (h0 : 0 ≤ a) (hS : S a = some (0, ci, tys)) (hci : vwCl[ci]? = some (cls, T, N)) (hstk : As.reverse ++ zv s0 2 a :: st = stk)
    (kx : ∀ (n : Nat) (M1 : zM), C.1 ≤ n → n ≤ C.1 + 1 → X1 M1 → rt_Tx l s0 G own nm cc nL ret tab d w0 Qr pc lv zISE (zw s0 ca (n, C.2 + 6) S M1))
    (kr : ∀ (v : Int) (M1 : zM), Q1 v M1 → rt_Go l s0 G own nm cc nL ret tab d w0 Qr (pc + 3) lv ((zret s0 tY v).toList ++ st) (zw s0 ca C S M1)) : rt_Go l s0 G own nm cc nL ret tab d w0 Qr pc lv stk (zw s0 ca C S M) := by
  subst hstk
  rw [zv_ref h0]
  refine rt_callVN Γ K C9 hM hd1 hnL hlen ⟨by have := hok.1; show C.1 ≤ _; omega, by have := hok.2; show C.2 ≤ _; omega⟩ hW hd (zw_at h0 hS) hci (by rw [zv_ref h0]) rfl ?_ ?_
  · rintro v w1 (⟨v9, M1, h1, rfl, h3⟩ | ⟨h1, -⟩)
    · cases Sum.inl.inj h1
      exact kr v9 M1 h3
    · cases h1
  · rintro Xn w1 (⟨v9, M1, h1, -⟩ | ⟨h1, n, M1, h2, h3, rfl, h4⟩)
    · cases h1
    · cases Sum.inr.inj h1
      exact kx n M1 h2 h3 h4
theorem z_callVN (Γ : rt_Γ l s0 a0 G ca) {y : MethodName} {kc : Cond} {ccY : ByteArray} {nLY : Nat} {retY : Option FieldType} {tabY : List ExceptionTableEntry} (K : rt_Kc y kc ccY nLY retY tabY) {index ci tY : Nat} {cls : String} {T : u_T} {N : Nat} {a : Int} {tys : List (Nat × Int)} (C9 : rt_CvN own index cls y) {d1 : Nat} {As : List Value} {Q1 : Int → zM → Prop} (hM : zMet l s0 G ca kc y tY d1 (zv s0 2 a :: As) C S M Q1 X) (hd1 : d1 + 1 ≤ d) (hnL : nLY ≤ 18) {stk : List Value} (hlen : (parseMethodDescriptor y.desc).map (fun q => q.parameters.length) = some As.length) (hok : zok C) (hW : (st.map fun v => v.category).sum ≤ 12) (hd : decode cc pc = .ok (.invokevirtual index, 3)) (h0 : 0 ≤ a) (hS : S a = some (0, ci, tys)) (hci : vwCl[ci]? = some (cls, T, N)) (hstk : As.reverse ++ zv s0 2 a :: st = stk) (hout : ∀ x ∈ tab, covers x pc = false)
    (kr : ∀ (v : Int) (M1 : zM), Q1 v M1 → rt_Go l s0 G own nm cc nL ret tab d w0 (zQ s0 ca t C S Q X) (pc + 3) lv ((zret s0 tY v).toList ++ st) (zw s0 ca C S M1)) : rt_Go l s0 G own nm cc nL ret tab d w0 (zQ s0 ca t C S Q X) pc lv stk (zw s0 ca C S M) :=
  zc_callVN Γ K C9 hM hd1 hnL hlen hok hW hd h0 hS hci hstk (fun n M1 h2 h3 h4 => rt_out hout (Or.inr ⟨rfl, n, M1, h2, h3, rfl, h4⟩)) kr
theorem zc_callS (Γ : rt_Γ l s0 a0 G ca) {y : MethodName} {kc : Cond} {ccY : ByteArray} {nLY : Nat} {retY : Option FieldType} {tabY : List ExceptionTableEntry} (K : rt_Kc y kc ccY nLY retY tabY) {index tY : Nat} (C9 : rt_Cs own index y) {d1 : Nat} {As : List Value} {Q1 : Int → zM → Prop} {X1 : zM → Prop} (hM : zMet l s0 G ca kc y tY d1 As C S M Q1 X1) (hd1 : d1 + 1 ≤ d) (hnL : nLY ≤ 18) {stk : List Value} (hlen : (parseMethodDescriptor y.desc).map (fun q => q.parameters.length) = some As.length) (hok : zok C) (hW : (st.map fun v => v.category).sum ≤ 12) (hd : decode cc pc = .ok (.invokestatic index, 3)) (hstk : As.reverse ++ st = stk)
    (kx : ∀ (n : Nat) (M1 : zM), C.1 ≤ n → n ≤ C.1 + 1 → X1 M1 → rt_Tx l s0 G own nm cc nL ret tab d w0 Qr pc lv zISE (zw s0 ca (n, C.2 + 6) S M1))
    (kr : ∀ (v : Int) (M1 : zM), Q1 v M1 → rt_Go l s0 G own nm cc nL ret tab d w0 Qr (pc + 3) lv ((zret s0 tY v).toList ++ st) (zw s0 ca C S M1)) : rt_Go l s0 G own nm cc nL ret tab d w0 Qr pc lv stk (zw s0 ca C S M) := by
  subst hstk
  refine rt_callS Γ K C9 hM hd1 hnL hlen ⟨by have := hok.1; show C.1 ≤ _; omega, by have := hok.2; show C.2 ≤ _; omega⟩ hW hd rfl rfl ?_ ?_
  · rintro v w1 (⟨v9, M1, h1, rfl, h3⟩ | ⟨h1, -⟩)
    · cases Sum.inl.inj h1
      exact kr v9 M1 h3
    · cases h1
  · rintro Xn w1 (⟨v9, M1, h1, -⟩ | ⟨h1, n, M1, h2, h3, rfl, h4⟩)
    · cases h1
    · cases Sum.inr.inj h1
      exact kx n M1 h2 h3 h4
theorem z_callS (Γ : rt_Γ l s0 a0 G ca) {y : MethodName} {kc : Cond} {ccY : ByteArray} {nLY : Nat} {retY : Option FieldType} {tabY : List ExceptionTableEntry} (K : rt_Kc y kc ccY nLY retY tabY) {index tY : Nat} (C9 : rt_Cs own index y) {d1 : Nat} {As : List Value} {Q1 : Int → zM → Prop} (hM : zMet l s0 G ca kc y tY d1 As C S M Q1 X) (hd1 : d1 + 1 ≤ d) (hnL : nLY ≤ 18) {stk : List Value} (hlen : (parseMethodDescriptor y.desc).map (fun q => q.parameters.length) = some As.length) (hok : zok C) (hW : (st.map fun v => v.category).sum ≤ 12) (hd : decode cc pc = .ok (.invokestatic index, 3)) (hstk : As.reverse ++ st = stk) (hout : ∀ x ∈ tab, covers x pc = false)
    (kr : ∀ (v : Int) (M1 : zM), Q1 v M1 → rt_Go l s0 G own nm cc nL ret tab d w0 (zQ s0 ca t C S Q X) (pc + 3) lv ((zret s0 tY v).toList ++ st) (zw s0 ca C S M1)) : rt_Go l s0 G own nm cc nL ret tab d w0 (zQ s0 ca t C S Q X) pc lv stk (zw s0 ca C S M) :=
  zc_callS Γ K C9 hM hd1 hnL hlen hok hW hd hstk (fun n M1 h2 h3 h4 => rt_out hout (Or.inr ⟨rfl, n, M1, h2, h3, rfl, h4⟩)) kr
theorem z_throwS (Γ : rt_Γ l s0 a0 G ca) {text : String} {names : List String} {ik ic is sa : Nat} (F : rt_Th own zISE names ik (vx_atS own ic zISE names)) (hstr : vk_R own is text sa s0) (d0 : decode cc pc = .ok (.new ik, 3)) (d3 : decode cc (pc + 3) = .ok (.dup, 1)) (d4 : decode cc (pc + 4) = .ok (.ldc is, 2)) (d6 : decode cc (pc + 6) = .ok (.invokespecial ic, 3)) (d9 : decode cc (pc + 9) = .ok (.athrow, 1)) (hout : ∀ x ∈ tab, covers x (pc + 9) = false) (hst : (st.map fun v => v.category).sum ≤ 12) (hok : zok C) (hX : X M) : rt_Go l s0 G own nm cc nL ret tab d w0 (zQ s0 ca t C S Q X) pc lv st (zw s0 ca C S M) :=
  rt_throwS Γ F hstr d0 d3 d4 d6 d9 hout hst ⟨by have := hok.1; show C.1 + 1 ≤ _; omega, by have := hok.2; show C.2 + 6 ≤ _; omega⟩ (fun n h1 h2 => Or.inr ⟨rfl, n, M, h1, h2, rfl, hX⟩)
end ZE
