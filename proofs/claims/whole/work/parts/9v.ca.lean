/-! ===== the world behind the constructors, in the layer z; the empty state ===== -/
def lw_sl : List zSh := [(0, 9, [(3, 1), (3, 3), (3, 5), (3, 6), (3, 24), (3, 55), (3, 56), (3, 69), (2, 0), (2, 0), (0, 0), (0, 0)]), (0, 0, [(3, 2), (0, 0)]), (1, 4096, []), (0, 0, [(3, 4), (0, 0)]), (1, 4096, []), (5, 8, []), (0, 8, [(3, 7), (3, 9), (3, 11), (3, 13), (3, 15), (3, 17), (3, 19), (3, 21), (3, 22), (2, 0), (0, 0), (0, 0), (0, 0)]), (0, 0, [(3, 8), (0, 0)]), (1, 2073, []), (0, 0, [(3, 10), (0, 0)]), (1, 2073, []), (0, 0, [(3, 12), (0, 0)]), (1, 2073, []), (0, 0, [(3, 14), (0, 0)]), (1, 2073, []), (0, 0, [(3, 16), (0, 0)]), (1, 2073, []), (0, 0, [(3, 18), (0, 0)]), (1, 2073, []), (0, 0, [(3, 20), (0, 0)]), (1, 2073, []), (3, 2073, []), (0, 0, [(3, 23), (0, 0)]), (1, 4096, []), (0, 1, [(3, 25), (3, 26), (3, 28), (2, 0), (2, 0), (0, 0), (0, 0), (0, 0)]), (0, 2, [(2, 0), (2, 0), (0, 0)]), (0, 0, [(3, 27), (0, 0)]), (1, 128, []), (0, 0, [(3, 29), (0, 0)]), (1, 128, []), (0, 6, [(3, 31), (3, 33), (3, 35), (3, 37), (3, 39), (3, 41), (3, 43), (3, 45), (3, 47), (3, 49), (3, 51), (3, 53), (0, 0)]), (0, 0, [(3, 32), (0, 0)]), (1, 134, []), (0, 0, [(3, 34), (0, 0)]), (1, 134, []), (0, 0, [(3, 36), (0, 0)]), (1, 134, []), (0, 0, [(3, 38), (0, 0)]), (1, 134, []), (0, 0, [(3, 40), (0, 0)]), (1, 134, []), (0, 0, [(3, 42), (0, 0)]), (1, 134, []), (0, 0, [(3, 44), (0, 0)]), (1, 2048, []), (0, 0, [(3, 46), (0, 0)]), (1, 2048, []), (0, 0, [(3, 48), (0, 0)]), (1, 2048, []), (0, 0, [(3, 50), (0, 0)]), (1, 2048, []), (0, 0, [(3, 52), (0, 0)]), (1, 4096, []), (0, 0, [(3, 54), (0, 0)]), (1, 8192, []), (0, 4, [(2, 0), (2, 0), (2, 0), (0, 0), (0, 0), (0, 0), (0, 0), (0, 0)]), (0, 7, [(3, 57), (3, 59), (3, 61), (3, 63), (3, 65), (3, 67), (2, 0), (2, 0), (2, 0), (0, 0), (0, 0), (0, 0)]), (0, 0, [(3, 58), (0, 0)]), (1, 4096, []), (0, 0, [(3, 60), (0, 0)]), (1, 2048, []), (0, 0, [(3, 62), (0, 0)]), (1, 1089, []), (0, 0, [(3, 64), (0, 0)]), (1, 134, []), (0, 0, [(3, 66), (0, 0)]), (1, 134, []), (0, 0, [(3, 68), (0, 0)]), (1, 134, []), (0, 3, [(3, 70), (3, 72), (2, 0), (2, 0), (0, 0)]), (0, 0, [(3, 71), (0, 0)]), (1, 17956, []), (0, 0, [(3, 73), (0, 0)]), (1, 17956, []), (0, 5, [(3, 75), (3, 77)]), (0, 0, [(3, 76), (0, 0)]), (1, 4096, []), (0, 0, [(3, 78), (0, 0)]), (1, 4096, []), (0, 5, [(3, 80), (3, 82)]), (0, 0, [(3, 81), (0, 0)]), (1, 4096, []), (0, 0, [(3, 83), (0, 0)]), (1, 4096, []), (0, 11, [(0, 0), (3, 85), (0, 0), (0, 0), (3, 86), (3, 108), (3, 130), (3, 131), (3, 132), (0, 0), (0, 0), (0, 0), (3, 133), (0, 0), (3, 134), (0, 0), (0, 0), (0, 0), (0, 0), (0, 0), (0, 0), (3, 135), (3, 136), (0, 0), (0, 0), (0, 0)]), (2, 4096, []), (0, 10, [(3, 87), (0, 0), (0, 0), (0, 0), (0, 0), (0, 0), (0, 0), (0, 0), (3, 88), (3, 89), (3, 90), (3, 91), (3, 92), (3, 93), (3, 94), (0, 0), (0, 0), (0, 0), (3, 95), (3, 96), (3, 97), (3, 98), (3, 99), (3, 100), (0, 0), (3, 101), (3, 102), (3, 103), (3, 104), (0, 0), (3, 105), (0, 0), (3, 106), (0, 0), (3, 107)]), (2, 4096, []), (1, 4200, []), (1, 4200, []), (3, 4200, []), (1, 4200, []), (1, 4200, []), (1, 4200, []), (2, 4200, []), (1, 140, []), (1, 140, []), (1, 140, []), (1, 140, []), (1, 140, []), (1, 140, []), (1, 2200, []), (1, 2200, []), (1, 2200, []), (1, 2200, []), (1, 2200, []), (2, 4200, []), (4, 140, []), (0, 10, [(3, 109), (0, 0), (0, 0), (0, 0), (0, 0), (0, 0), (0, 0), (0, 0), (3, 110), (3, 111), (3, 112), (3, 113), (3, 114), (3, 115), (3, 116), (0, 0), (0, 0), (0, 0), (3, 117), (3, 118), (3, 119), (3, 120), (3, 121), (3, 122), (0, 0), (3, 123), (3, 124), (3, 125), (3, 126), (0, 0), (3, 127), (0, 0), (3, 128), (0, 0), (3, 129)]), (2, 4096, []), (1, 4200, []), (1, 4200, []), (3, 4200, []), (1, 4200, []), (1, 4200, []), (1, 4200, []), (2, 4200, []), (1, 140, []), (1, 140, []), (1, 140, []), (1, 140, []), (1, 140, []), (1, 140, []), (1, 2200, []), (1, 2200, []), (1, 2200, []), (1, 2200, []), (1, 2200, []), (2, 4200, []), (4, 140, []), (2, 32768, []), (1, 8, []), (2, 4200, []), (2, 4200, []), (2, 4200, []), (4, 19600, []), (1, 19600, []), (3, 1, [])]
def lw_S : zS := fun b => if 0 ≤ b then lw_sl[b.toNat]? else none
def lw_m : zM := fun a j => if a = 5 then -1 else if a = 131 then (if 0 ≤ j ∧ j < 8 then -1 else 0) else if a = 0 then (if j = 8 then 74 else if j = 9 then 79 else if j = 10 then -1 else if j = 11 then -1 else 0) else if a = 6 then (if j = 9 then -1 else 0) else if a = 24 then (if j = 3 then 30 else if j = 4 then -1 else 0) else if a = 25 then (if j = 0 then -1 else if j = 1 then -1 else 0) else if a = 55 then (if j = 0 then -1 else if j = 1 then -1 else if j = 2 then -1 else if j = 7 then -1 else 0) else if a = 56 then (if j = 6 then -1 else if j = 7 then -1 else if j = 8 then -1 else 0) else if a = 69 then (if j = 2 then -1 else if j = 3 then -1 else 0) else if a = 84 then (if j = 3 then -1 else if j = 9 then -1 else 0) else 0
def lw_zl (s0 : State) (ca : Nat → ClassId) : Nat → List zSh → List va_E
  | _, [] => []
  | k, q :: r => zcell s0 ca (lw_m (k : Int)) q :: lw_zl s0 ca (k + 1) r
theorem lw_zl_at {s0 : State} {ca : Nat → ClassId} : ∀ (l : List zSh) (k i : Nat), (lw_zl s0 ca k l)[i]? = (l[i]?).map (zcell s0 ca (lw_m ((k + i : Nat) : Int))) := by
  intro l
  induction l with
  | nil => intro k i; rfl
  | cons q r ih =>
    intro k i
    cases i with
    | zero => rfl
    | succ i =>
      show (lw_zl s0 ca (k + 1) r)[i]? = (r[i]?).map _
      rw [ih, show k + 1 + i = k + (i + 1) by omega]
theorem lw_c2 {s0 : State} {ca : Nat → ClassId} {k : Nat} {e : va_E} {q : zSh} {L : List va_E} {r : List zSh} (h : e = zcell s0 ca (lw_m (k : Int)) q) (h2 : L = lw_zl s0 ca (k + 1) r) : e :: L = lw_zl s0 ca k (q :: r) := by
  rw [h, h2]; rfl
theorem lw_a1 {s0 : State} {ca : Nat → ClassId} {m : Int → Int} {n : Nat} (h : ∀ j : Nat, m (j : Int) = 0) : (.inl (ca 0, n, .inl (fun _ => 0)) : va_E) = zcell s0 ca m (1, n, []) := by
  show _ = (Sum.inl (ca 0, n, .inl (fun j : Nat => Int32.ofInt (m j))) : va_E)
  rw [show (fun j : Nat => Int32.ofInt (m j)) = fun _ => 0 from funext fun j => by rw [h j]; rfl]
theorem lw_a2 {s0 : State} {ca : Nat → ClassId} {m : Int → Int} {n : Nat} (h : ∀ j : Nat, m (j : Int) = 0) : (.inl (ca 1, n, .inl (fun _ => 0)) : va_E) = zcell s0 ca m (2, n, []) := by
  show _ = (Sum.inl (ca 1, n, .inl (fun j : Nat => Int32.ofInt (m j))) : va_E)
  rw [show (fun j : Nat => Int32.ofInt (m j)) = fun _ => 0 from funext fun j => by rw [h j]; rfl]
theorem lw_a3 {s0 : State} {ca : Nat → ClassId} {m : Int → Int} {n : Nat} (h : ∀ j : Nat, m (j : Int) = 0) : (.inl (ca 2, n, .inr (.inl (fun _ => 0))) : va_E) = zcell s0 ca m (3, n, []) := by
  show _ = (Sum.inl (ca 2, n, .inr (.inl (fun j : Nat => Int64.ofInt (m j)))) : va_E)
  rw [show (fun j : Nat => Int64.ofInt (m j)) = fun _ => 0 from funext fun j => by rw [h j]; rfl]
theorem lw_a4 {s0 : State} {ca : Nat → ClassId} {m : Int → Int} {n : Nat} (h : ∀ j : Nat, m (j : Int) = 0) : (.inl (ca 3, n, .inl (fun _ => 0)) : va_E) = zcell s0 ca m (4, n, []) := by
  show _ = (Sum.inl (ca 3, n, .inl (fun j : Nat => Int32.ofInt (m j))) : va_E)
  rw [show (fun j : Nat => Int32.ofInt (m j)) = fun _ => 0 from funext fun j => by rw [h j]; rfl]
theorem lw_a5 {s0 : State} {ca : Nat → ClassId} {m : Int → Int} {n : Nat} (h : ∀ j : Nat, m (j : Int) = -1) : (.inl (ca 4, n, .inr (.inr (.inr (.inr (fun _ => none))))) : va_E) = zcell s0 ca m (5, n, []) := by
  show _ = (Sum.inl (ca 4, n, .inr (.inr (.inr (.inr (fun j : Nat => if m j < 0 then none else some (s0.heap.size + (m j).toNat)))))) : va_E)
  rw [show (fun j : Nat => if m (j : Int) < 0 then none else some (s0.heap.size + (m (j : Int)).toNat)) = fun _ => none from funext fun j => by rw [h j]; rfl]
theorem lw_a8 {s0 : State} {ca : Nat → ClassId} {m : Int → Int} {n : Nat} (h : ∀ j : Nat, m (j : Int) = if 0 ≤ (j : Int) ∧ (j : Int) < 8 then -1 else 0) : (.inl (ca 0, n, .inl (rt_fs 8)) : va_E) = zcell s0 ca m (1, n, []) := by
  show _ = (Sum.inl (ca 0, n, .inl (fun j : Nat => Int32.ofInt (m j))) : va_E)
  rw [show (fun j : Nat => Int32.ofInt (m j)) = rt_fs 8 from funext fun j => by
    rw [h j]
    unfold rt_fs
    by_cases c : j < 8
    · rw [if_pos c, if_pos ⟨by omega, by omega⟩]; rfl
    · rw [if_neg c, if_neg (fun x => c (by omega))]; rfl]
set_option maxRecDepth 100000 in
theorem lw_lz0 {s0 : State} {ca : Nat → ClassId} {L : List va_E} {r : List zSh} (h : L = lw_zl s0 ca 23 r) : (.inr (9, [rt_r s0 1, rt_r s0 3, rt_r s0 5, rt_r s0 6, rt_r s0 24, rt_r s0 55, rt_r s0 56, rt_r s0 69, rt_r s0 74, rt_r s0 79, .int (-1), .int (-1)]) : va_E) :: (.inr (0, [rt_r s0 2, .int 0]) : va_E) :: (.inl (ca 0, 4096, .inl (fun _ => 0)) : va_E) :: (.inr (0, [rt_r s0 4, .int 0]) : va_E) :: (.inl (ca 0, 4096, .inl (fun _ => 0)) : va_E) :: (.inl (ca 4, 8, .inr (.inr (.inr (.inr (fun _ => none))))) : va_E) :: (.inr (8, [rt_r s0 7, rt_r s0 9, rt_r s0 11, rt_r s0 13, rt_r s0 15, rt_r s0 17, rt_r s0 19, rt_r s0 21, rt_r s0 22, .null, .int 0, .int 0, .int 0]) : va_E) :: (.inr (0, [rt_r s0 8, .int 0]) : va_E) :: (.inl (ca 0, 2073, .inl (fun _ => 0)) : va_E) :: (.inr (0, [rt_r s0 10, .int 0]) : va_E) :: (.inl (ca 0, 2073, .inl (fun _ => 0)) : va_E) :: (.inr (0, [rt_r s0 12, .int 0]) : va_E) :: (.inl (ca 0, 2073, .inl (fun _ => 0)) : va_E) :: (.inr (0, [rt_r s0 14, .int 0]) : va_E) :: (.inl (ca 0, 2073, .inl (fun _ => 0)) : va_E) :: (.inr (0, [rt_r s0 16, .int 0]) : va_E) :: (.inl (ca 0, 2073, .inl (fun _ => 0)) : va_E) :: (.inr (0, [rt_r s0 18, .int 0]) : va_E) :: (.inl (ca 0, 2073, .inl (fun _ => 0)) : va_E) :: (.inr (0, [rt_r s0 20, .int 0]) : va_E) :: (.inl (ca 0, 2073, .inl (fun _ => 0)) : va_E) :: (.inl (ca 2, 2073, .inr (.inl (fun _ => 0))) : va_E) :: (.inr (0, [rt_r s0 23, .int 0]) : va_E) :: L = lw_zl s0 ca 0 ((0, 9, [(3, 1), (3, 3), (3, 5), (3, 6), (3, 24), (3, 55), (3, 56), (3, 69), (2, 0), (2, 0), (0, 0), (0, 0)]) :: (0, 0, [(3, 2), (0, 0)]) :: (1, 4096, []) :: (0, 0, [(3, 4), (0, 0)]) :: (1, 4096, []) :: (5, 8, []) :: (0, 8, [(3, 7), (3, 9), (3, 11), (3, 13), (3, 15), (3, 17), (3, 19), (3, 21), (3, 22), (2, 0), (0, 0), (0, 0), (0, 0)]) :: (0, 0, [(3, 8), (0, 0)]) :: (1, 2073, []) :: (0, 0, [(3, 10), (0, 0)]) :: (1, 2073, []) :: (0, 0, [(3, 12), (0, 0)]) :: (1, 2073, []) :: (0, 0, [(3, 14), (0, 0)]) :: (1, 2073, []) :: (0, 0, [(3, 16), (0, 0)]) :: (1, 2073, []) :: (0, 0, [(3, 18), (0, 0)]) :: (1, 2073, []) :: (0, 0, [(3, 20), (0, 0)]) :: (1, 2073, []) :: (3, 2073, []) :: (0, 0, [(3, 23), (0, 0)]) :: r) := by
  refine lw_c2 (k := 0) rfl ?_
  refine lw_c2 (k := 1) rfl ?_
  refine lw_c2 (k := 2) (lw_a1 (fun j => rfl)) ?_
  refine lw_c2 (k := 3) rfl ?_
  refine lw_c2 (k := 4) (lw_a1 (fun j => rfl)) ?_
  refine lw_c2 (k := 5) (lw_a5 (fun j => rfl)) ?_
  refine lw_c2 (k := 6) rfl ?_
  refine lw_c2 (k := 7) rfl ?_
  refine lw_c2 (k := 8) (lw_a1 (fun j => rfl)) ?_
  refine lw_c2 (k := 9) rfl ?_
  refine lw_c2 (k := 10) (lw_a1 (fun j => rfl)) ?_
  refine lw_c2 (k := 11) rfl ?_
  refine lw_c2 (k := 12) (lw_a1 (fun j => rfl)) ?_
  refine lw_c2 (k := 13) rfl ?_
  refine lw_c2 (k := 14) (lw_a1 (fun j => rfl)) ?_
  refine lw_c2 (k := 15) rfl ?_
  refine lw_c2 (k := 16) (lw_a1 (fun j => rfl)) ?_
  refine lw_c2 (k := 17) rfl ?_
  refine lw_c2 (k := 18) (lw_a1 (fun j => rfl)) ?_
  refine lw_c2 (k := 19) rfl ?_
  refine lw_c2 (k := 20) (lw_a1 (fun j => rfl)) ?_
  refine lw_c2 (k := 21) (lw_a3 (fun j => rfl)) ?_
  refine lw_c2 (k := 22) rfl ?_
  exact h
set_option maxRecDepth 100000 in
theorem lw_lz23 {s0 : State} {ca : Nat → ClassId} {L : List va_E} {r : List zSh} (h : L = lw_zl s0 ca 46 r) : (.inl (ca 0, 4096, .inl (fun _ => 0)) : va_E) :: (.inr (1, [rt_r s0 25, rt_r s0 26, rt_r s0 28, rt_r s0 30, .null, .int 0, .int 0, .int 0]) : va_E) :: (.inr (2, [.null, .null, .int 0]) : va_E) :: (.inr (0, [rt_r s0 27, .int 0]) : va_E) :: (.inl (ca 0, 128, .inl (fun _ => 0)) : va_E) :: (.inr (0, [rt_r s0 29, .int 0]) : va_E) :: (.inl (ca 0, 128, .inl (fun _ => 0)) : va_E) :: (.inr (6, [rt_r s0 31, rt_r s0 33, rt_r s0 35, rt_r s0 37, rt_r s0 39, rt_r s0 41, rt_r s0 43, rt_r s0 45, rt_r s0 47, rt_r s0 49, rt_r s0 51, rt_r s0 53, .int 0]) : va_E) :: (.inr (0, [rt_r s0 32, .int 0]) : va_E) :: (.inl (ca 0, 134, .inl (fun _ => 0)) : va_E) :: (.inr (0, [rt_r s0 34, .int 0]) : va_E) :: (.inl (ca 0, 134, .inl (fun _ => 0)) : va_E) :: (.inr (0, [rt_r s0 36, .int 0]) : va_E) :: (.inl (ca 0, 134, .inl (fun _ => 0)) : va_E) :: (.inr (0, [rt_r s0 38, .int 0]) : va_E) :: (.inl (ca 0, 134, .inl (fun _ => 0)) : va_E) :: (.inr (0, [rt_r s0 40, .int 0]) : va_E) :: (.inl (ca 0, 134, .inl (fun _ => 0)) : va_E) :: (.inr (0, [rt_r s0 42, .int 0]) : va_E) :: (.inl (ca 0, 134, .inl (fun _ => 0)) : va_E) :: (.inr (0, [rt_r s0 44, .int 0]) : va_E) :: (.inl (ca 0, 2048, .inl (fun _ => 0)) : va_E) :: (.inr (0, [rt_r s0 46, .int 0]) : va_E) :: L = lw_zl s0 ca 23 ((1, 4096, []) :: (0, 1, [(3, 25), (3, 26), (3, 28), (2, 0), (2, 0), (0, 0), (0, 0), (0, 0)]) :: (0, 2, [(2, 0), (2, 0), (0, 0)]) :: (0, 0, [(3, 27), (0, 0)]) :: (1, 128, []) :: (0, 0, [(3, 29), (0, 0)]) :: (1, 128, []) :: (0, 6, [(3, 31), (3, 33), (3, 35), (3, 37), (3, 39), (3, 41), (3, 43), (3, 45), (3, 47), (3, 49), (3, 51), (3, 53), (0, 0)]) :: (0, 0, [(3, 32), (0, 0)]) :: (1, 134, []) :: (0, 0, [(3, 34), (0, 0)]) :: (1, 134, []) :: (0, 0, [(3, 36), (0, 0)]) :: (1, 134, []) :: (0, 0, [(3, 38), (0, 0)]) :: (1, 134, []) :: (0, 0, [(3, 40), (0, 0)]) :: (1, 134, []) :: (0, 0, [(3, 42), (0, 0)]) :: (1, 134, []) :: (0, 0, [(3, 44), (0, 0)]) :: (1, 2048, []) :: (0, 0, [(3, 46), (0, 0)]) :: r) := by
  refine lw_c2 (k := 23) (lw_a1 (fun j => rfl)) ?_
  refine lw_c2 (k := 24) rfl ?_
  refine lw_c2 (k := 25) rfl ?_
  refine lw_c2 (k := 26) rfl ?_
  refine lw_c2 (k := 27) (lw_a1 (fun j => rfl)) ?_
  refine lw_c2 (k := 28) rfl ?_
  refine lw_c2 (k := 29) (lw_a1 (fun j => rfl)) ?_
  refine lw_c2 (k := 30) rfl ?_
  refine lw_c2 (k := 31) rfl ?_
  refine lw_c2 (k := 32) (lw_a1 (fun j => rfl)) ?_
  refine lw_c2 (k := 33) rfl ?_
  refine lw_c2 (k := 34) (lw_a1 (fun j => rfl)) ?_
  refine lw_c2 (k := 35) rfl ?_
  refine lw_c2 (k := 36) (lw_a1 (fun j => rfl)) ?_
  refine lw_c2 (k := 37) rfl ?_
  refine lw_c2 (k := 38) (lw_a1 (fun j => rfl)) ?_
  refine lw_c2 (k := 39) rfl ?_
  refine lw_c2 (k := 40) (lw_a1 (fun j => rfl)) ?_
  refine lw_c2 (k := 41) rfl ?_
  refine lw_c2 (k := 42) (lw_a1 (fun j => rfl)) ?_
  refine lw_c2 (k := 43) rfl ?_
  refine lw_c2 (k := 44) (lw_a1 (fun j => rfl)) ?_
  refine lw_c2 (k := 45) rfl ?_
  exact h
set_option maxRecDepth 100000 in
theorem lw_lz46 {s0 : State} {ca : Nat → ClassId} {L : List va_E} {r : List zSh} (h : L = lw_zl s0 ca 69 r) : (.inl (ca 0, 2048, .inl (fun _ => 0)) : va_E) :: (.inr (0, [rt_r s0 48, .int 0]) : va_E) :: (.inl (ca 0, 2048, .inl (fun _ => 0)) : va_E) :: (.inr (0, [rt_r s0 50, .int 0]) : va_E) :: (.inl (ca 0, 2048, .inl (fun _ => 0)) : va_E) :: (.inr (0, [rt_r s0 52, .int 0]) : va_E) :: (.inl (ca 0, 4096, .inl (fun _ => 0)) : va_E) :: (.inr (0, [rt_r s0 54, .int 0]) : va_E) :: (.inl (ca 0, 8192, .inl (fun _ => 0)) : va_E) :: (.inr (4, [.null, .null, .null, .int 0, .int 0, .int 0, .int 0, .int (-1)]) : va_E) :: (.inr (7, [rt_r s0 57, rt_r s0 59, rt_r s0 61, rt_r s0 63, rt_r s0 65, rt_r s0 67, .null, .null, .null, .int 0, .int 0, .int 0]) : va_E) :: (.inr (0, [rt_r s0 58, .int 0]) : va_E) :: (.inl (ca 0, 4096, .inl (fun _ => 0)) : va_E) :: (.inr (0, [rt_r s0 60, .int 0]) : va_E) :: (.inl (ca 0, 2048, .inl (fun _ => 0)) : va_E) :: (.inr (0, [rt_r s0 62, .int 0]) : va_E) :: (.inl (ca 0, 1089, .inl (fun _ => 0)) : va_E) :: (.inr (0, [rt_r s0 64, .int 0]) : va_E) :: (.inl (ca 0, 134, .inl (fun _ => 0)) : va_E) :: (.inr (0, [rt_r s0 66, .int 0]) : va_E) :: (.inl (ca 0, 134, .inl (fun _ => 0)) : va_E) :: (.inr (0, [rt_r s0 68, .int 0]) : va_E) :: (.inl (ca 0, 134, .inl (fun _ => 0)) : va_E) :: L = lw_zl s0 ca 46 ((1, 2048, []) :: (0, 0, [(3, 48), (0, 0)]) :: (1, 2048, []) :: (0, 0, [(3, 50), (0, 0)]) :: (1, 2048, []) :: (0, 0, [(3, 52), (0, 0)]) :: (1, 4096, []) :: (0, 0, [(3, 54), (0, 0)]) :: (1, 8192, []) :: (0, 4, [(2, 0), (2, 0), (2, 0), (0, 0), (0, 0), (0, 0), (0, 0), (0, 0)]) :: (0, 7, [(3, 57), (3, 59), (3, 61), (3, 63), (3, 65), (3, 67), (2, 0), (2, 0), (2, 0), (0, 0), (0, 0), (0, 0)]) :: (0, 0, [(3, 58), (0, 0)]) :: (1, 4096, []) :: (0, 0, [(3, 60), (0, 0)]) :: (1, 2048, []) :: (0, 0, [(3, 62), (0, 0)]) :: (1, 1089, []) :: (0, 0, [(3, 64), (0, 0)]) :: (1, 134, []) :: (0, 0, [(3, 66), (0, 0)]) :: (1, 134, []) :: (0, 0, [(3, 68), (0, 0)]) :: (1, 134, []) :: r) := by
  refine lw_c2 (k := 46) (lw_a1 (fun j => rfl)) ?_
  refine lw_c2 (k := 47) rfl ?_
  refine lw_c2 (k := 48) (lw_a1 (fun j => rfl)) ?_
  refine lw_c2 (k := 49) rfl ?_
  refine lw_c2 (k := 50) (lw_a1 (fun j => rfl)) ?_
  refine lw_c2 (k := 51) rfl ?_
  refine lw_c2 (k := 52) (lw_a1 (fun j => rfl)) ?_
  refine lw_c2 (k := 53) rfl ?_
  refine lw_c2 (k := 54) (lw_a1 (fun j => rfl)) ?_
  refine lw_c2 (k := 55) rfl ?_
  refine lw_c2 (k := 56) rfl ?_
  refine lw_c2 (k := 57) rfl ?_
  refine lw_c2 (k := 58) (lw_a1 (fun j => rfl)) ?_
  refine lw_c2 (k := 59) rfl ?_
  refine lw_c2 (k := 60) (lw_a1 (fun j => rfl)) ?_
  refine lw_c2 (k := 61) rfl ?_
  refine lw_c2 (k := 62) (lw_a1 (fun j => rfl)) ?_
  refine lw_c2 (k := 63) rfl ?_
  refine lw_c2 (k := 64) (lw_a1 (fun j => rfl)) ?_
  refine lw_c2 (k := 65) rfl ?_
  refine lw_c2 (k := 66) (lw_a1 (fun j => rfl)) ?_
  refine lw_c2 (k := 67) rfl ?_
  refine lw_c2 (k := 68) (lw_a1 (fun j => rfl)) ?_
  exact h
set_option maxRecDepth 100000 in
theorem lw_lz69 {s0 : State} {ca : Nat → ClassId} {L : List va_E} {r : List zSh} (h : L = lw_zl s0 ca 92 r) : (.inr (3, [rt_r s0 70, rt_r s0 72, .null, .null, .int 0]) : va_E) :: (.inr (0, [rt_r s0 71, .int 0]) : va_E) :: (.inl (ca 0, 17956, .inl (fun _ => 0)) : va_E) :: (.inr (0, [rt_r s0 73, .int 0]) : va_E) :: (.inl (ca 0, 17956, .inl (fun _ => 0)) : va_E) :: (.inr (5, [rt_r s0 75, rt_r s0 77]) : va_E) :: (.inr (0, [rt_r s0 76, .int 0]) : va_E) :: (.inl (ca 0, 4096, .inl (fun _ => 0)) : va_E) :: (.inr (0, [rt_r s0 78, .int 0]) : va_E) :: (.inl (ca 0, 4096, .inl (fun _ => 0)) : va_E) :: (.inr (5, [rt_r s0 80, rt_r s0 82]) : va_E) :: (.inr (0, [rt_r s0 81, .int 0]) : va_E) :: (.inl (ca 0, 4096, .inl (fun _ => 0)) : va_E) :: (.inr (0, [rt_r s0 83, .int 0]) : va_E) :: (.inl (ca 0, 4096, .inl (fun _ => 0)) : va_E) :: (.inr (11, [.int 0, rt_r s0 85, .int 0, .int (-1), rt_r s0 86, rt_r s0 108, rt_r s0 130, rt_r s0 131, rt_r s0 132, .int (-1), .int 0, .int 0, rt_r s0 133, .int 0, rt_r s0 134, .int 0, .int 0, .int 0, .int 0, .int 0, .int 0, rt_r s0 135, rt_r s0 136, .int 0, .int 0, .int 0]) : va_E) :: (.inl (ca 1, 4096, .inl (fun _ => 0)) : va_E) :: (.inr (10, [rt_r s0 87, .int 0, .int 0, .int 0, .int 0, .int 0, .int 0, .int 0, rt_r s0 88, rt_r s0 89, rt_r s0 90, rt_r s0 91, rt_r s0 92, rt_r s0 93, rt_r s0 94, .int 0, .int 0, .int 0, rt_r s0 95, rt_r s0 96, rt_r s0 97, rt_r s0 98, rt_r s0 99, rt_r s0 100, .int 0, rt_r s0 101, rt_r s0 102, rt_r s0 103, rt_r s0 104, .int 0, rt_r s0 105, .int 0, rt_r s0 106, .int 0, rt_r s0 107]) : va_E) :: (.inl (ca 1, 4096, .inl (fun _ => 0)) : va_E) :: (.inl (ca 0, 4200, .inl (fun _ => 0)) : va_E) :: (.inl (ca 0, 4200, .inl (fun _ => 0)) : va_E) :: (.inl (ca 2, 4200, .inr (.inl (fun _ => 0))) : va_E) :: (.inl (ca 0, 4200, .inl (fun _ => 0)) : va_E) :: L = lw_zl s0 ca 69 ((0, 3, [(3, 70), (3, 72), (2, 0), (2, 0), (0, 0)]) :: (0, 0, [(3, 71), (0, 0)]) :: (1, 17956, []) :: (0, 0, [(3, 73), (0, 0)]) :: (1, 17956, []) :: (0, 5, [(3, 75), (3, 77)]) :: (0, 0, [(3, 76), (0, 0)]) :: (1, 4096, []) :: (0, 0, [(3, 78), (0, 0)]) :: (1, 4096, []) :: (0, 5, [(3, 80), (3, 82)]) :: (0, 0, [(3, 81), (0, 0)]) :: (1, 4096, []) :: (0, 0, [(3, 83), (0, 0)]) :: (1, 4096, []) :: (0, 11, [(0, 0), (3, 85), (0, 0), (0, 0), (3, 86), (3, 108), (3, 130), (3, 131), (3, 132), (0, 0), (0, 0), (0, 0), (3, 133), (0, 0), (3, 134), (0, 0), (0, 0), (0, 0), (0, 0), (0, 0), (0, 0), (3, 135), (3, 136), (0, 0), (0, 0), (0, 0)]) :: (2, 4096, []) :: (0, 10, [(3, 87), (0, 0), (0, 0), (0, 0), (0, 0), (0, 0), (0, 0), (0, 0), (3, 88), (3, 89), (3, 90), (3, 91), (3, 92), (3, 93), (3, 94), (0, 0), (0, 0), (0, 0), (3, 95), (3, 96), (3, 97), (3, 98), (3, 99), (3, 100), (0, 0), (3, 101), (3, 102), (3, 103), (3, 104), (0, 0), (3, 105), (0, 0), (3, 106), (0, 0), (3, 107)]) :: (2, 4096, []) :: (1, 4200, []) :: (1, 4200, []) :: (3, 4200, []) :: (1, 4200, []) :: r) := by
  refine lw_c2 (k := 69) rfl ?_
  refine lw_c2 (k := 70) rfl ?_
  refine lw_c2 (k := 71) (lw_a1 (fun j => rfl)) ?_
  refine lw_c2 (k := 72) rfl ?_
  refine lw_c2 (k := 73) (lw_a1 (fun j => rfl)) ?_
  refine lw_c2 (k := 74) rfl ?_
  refine lw_c2 (k := 75) rfl ?_
  refine lw_c2 (k := 76) (lw_a1 (fun j => rfl)) ?_
  refine lw_c2 (k := 77) rfl ?_
  refine lw_c2 (k := 78) (lw_a1 (fun j => rfl)) ?_
  refine lw_c2 (k := 79) rfl ?_
  refine lw_c2 (k := 80) rfl ?_
  refine lw_c2 (k := 81) (lw_a1 (fun j => rfl)) ?_
  refine lw_c2 (k := 82) rfl ?_
  refine lw_c2 (k := 83) (lw_a1 (fun j => rfl)) ?_
  refine lw_c2 (k := 84) rfl ?_
  refine lw_c2 (k := 85) (lw_a2 (fun j => rfl)) ?_
  refine lw_c2 (k := 86) rfl ?_
  refine lw_c2 (k := 87) (lw_a2 (fun j => rfl)) ?_
  refine lw_c2 (k := 88) (lw_a1 (fun j => rfl)) ?_
  refine lw_c2 (k := 89) (lw_a1 (fun j => rfl)) ?_
  refine lw_c2 (k := 90) (lw_a3 (fun j => rfl)) ?_
  refine lw_c2 (k := 91) (lw_a1 (fun j => rfl)) ?_
  exact h
set_option maxRecDepth 100000 in
theorem lw_lz92 {s0 : State} {ca : Nat → ClassId} {L : List va_E} {r : List zSh} (h : L = lw_zl s0 ca 115 r) : (.inl (ca 0, 4200, .inl (fun _ => 0)) : va_E) :: (.inl (ca 0, 4200, .inl (fun _ => 0)) : va_E) :: (.inl (ca 1, 4200, .inl (fun _ => 0)) : va_E) :: (.inl (ca 0, 140, .inl (fun _ => 0)) : va_E) :: (.inl (ca 0, 140, .inl (fun _ => 0)) : va_E) :: (.inl (ca 0, 140, .inl (fun _ => 0)) : va_E) :: (.inl (ca 0, 140, .inl (fun _ => 0)) : va_E) :: (.inl (ca 0, 140, .inl (fun _ => 0)) : va_E) :: (.inl (ca 0, 140, .inl (fun _ => 0)) : va_E) :: (.inl (ca 0, 2200, .inl (fun _ => 0)) : va_E) :: (.inl (ca 0, 2200, .inl (fun _ => 0)) : va_E) :: (.inl (ca 0, 2200, .inl (fun _ => 0)) : va_E) :: (.inl (ca 0, 2200, .inl (fun _ => 0)) : va_E) :: (.inl (ca 0, 2200, .inl (fun _ => 0)) : va_E) :: (.inl (ca 1, 4200, .inl (fun _ => 0)) : va_E) :: (.inl (ca 3, 140, .inl (fun _ => 0)) : va_E) :: (.inr (10, [rt_r s0 109, .int 0, .int 0, .int 0, .int 0, .int 0, .int 0, .int 0, rt_r s0 110, rt_r s0 111, rt_r s0 112, rt_r s0 113, rt_r s0 114, rt_r s0 115, rt_r s0 116, .int 0, .int 0, .int 0, rt_r s0 117, rt_r s0 118, rt_r s0 119, rt_r s0 120, rt_r s0 121, rt_r s0 122, .int 0, rt_r s0 123, rt_r s0 124, rt_r s0 125, rt_r s0 126, .int 0, rt_r s0 127, .int 0, rt_r s0 128, .int 0, rt_r s0 129]) : va_E) :: (.inl (ca 1, 4096, .inl (fun _ => 0)) : va_E) :: (.inl (ca 0, 4200, .inl (fun _ => 0)) : va_E) :: (.inl (ca 0, 4200, .inl (fun _ => 0)) : va_E) :: (.inl (ca 2, 4200, .inr (.inl (fun _ => 0))) : va_E) :: (.inl (ca 0, 4200, .inl (fun _ => 0)) : va_E) :: (.inl (ca 0, 4200, .inl (fun _ => 0)) : va_E) :: L = lw_zl s0 ca 92 ((1, 4200, []) :: (1, 4200, []) :: (2, 4200, []) :: (1, 140, []) :: (1, 140, []) :: (1, 140, []) :: (1, 140, []) :: (1, 140, []) :: (1, 140, []) :: (1, 2200, []) :: (1, 2200, []) :: (1, 2200, []) :: (1, 2200, []) :: (1, 2200, []) :: (2, 4200, []) :: (4, 140, []) :: (0, 10, [(3, 109), (0, 0), (0, 0), (0, 0), (0, 0), (0, 0), (0, 0), (0, 0), (3, 110), (3, 111), (3, 112), (3, 113), (3, 114), (3, 115), (3, 116), (0, 0), (0, 0), (0, 0), (3, 117), (3, 118), (3, 119), (3, 120), (3, 121), (3, 122), (0, 0), (3, 123), (3, 124), (3, 125), (3, 126), (0, 0), (3, 127), (0, 0), (3, 128), (0, 0), (3, 129)]) :: (2, 4096, []) :: (1, 4200, []) :: (1, 4200, []) :: (3, 4200, []) :: (1, 4200, []) :: (1, 4200, []) :: r) := by
  refine lw_c2 (k := 92) (lw_a1 (fun j => rfl)) ?_
  refine lw_c2 (k := 93) (lw_a1 (fun j => rfl)) ?_
  refine lw_c2 (k := 94) (lw_a2 (fun j => rfl)) ?_
  refine lw_c2 (k := 95) (lw_a1 (fun j => rfl)) ?_
  refine lw_c2 (k := 96) (lw_a1 (fun j => rfl)) ?_
  refine lw_c2 (k := 97) (lw_a1 (fun j => rfl)) ?_
  refine lw_c2 (k := 98) (lw_a1 (fun j => rfl)) ?_
  refine lw_c2 (k := 99) (lw_a1 (fun j => rfl)) ?_
  refine lw_c2 (k := 100) (lw_a1 (fun j => rfl)) ?_
  refine lw_c2 (k := 101) (lw_a1 (fun j => rfl)) ?_
  refine lw_c2 (k := 102) (lw_a1 (fun j => rfl)) ?_
  refine lw_c2 (k := 103) (lw_a1 (fun j => rfl)) ?_
  refine lw_c2 (k := 104) (lw_a1 (fun j => rfl)) ?_
  refine lw_c2 (k := 105) (lw_a1 (fun j => rfl)) ?_
  refine lw_c2 (k := 106) (lw_a2 (fun j => rfl)) ?_
  refine lw_c2 (k := 107) (lw_a4 (fun j => rfl)) ?_
  refine lw_c2 (k := 108) rfl ?_
  refine lw_c2 (k := 109) (lw_a2 (fun j => rfl)) ?_
  refine lw_c2 (k := 110) (lw_a1 (fun j => rfl)) ?_
  refine lw_c2 (k := 111) (lw_a1 (fun j => rfl)) ?_
  refine lw_c2 (k := 112) (lw_a3 (fun j => rfl)) ?_
  refine lw_c2 (k := 113) (lw_a1 (fun j => rfl)) ?_
  refine lw_c2 (k := 114) (lw_a1 (fun j => rfl)) ?_
  exact h
set_option maxRecDepth 100000 in
theorem lw_lz115 {s0 : State} {ca : Nat → ClassId} {L : List va_E} {r : List zSh} (h : L = lw_zl s0 ca 138 r) : (.inl (ca 0, 4200, .inl (fun _ => 0)) : va_E) :: (.inl (ca 1, 4200, .inl (fun _ => 0)) : va_E) :: (.inl (ca 0, 140, .inl (fun _ => 0)) : va_E) :: (.inl (ca 0, 140, .inl (fun _ => 0)) : va_E) :: (.inl (ca 0, 140, .inl (fun _ => 0)) : va_E) :: (.inl (ca 0, 140, .inl (fun _ => 0)) : va_E) :: (.inl (ca 0, 140, .inl (fun _ => 0)) : va_E) :: (.inl (ca 0, 140, .inl (fun _ => 0)) : va_E) :: (.inl (ca 0, 2200, .inl (fun _ => 0)) : va_E) :: (.inl (ca 0, 2200, .inl (fun _ => 0)) : va_E) :: (.inl (ca 0, 2200, .inl (fun _ => 0)) : va_E) :: (.inl (ca 0, 2200, .inl (fun _ => 0)) : va_E) :: (.inl (ca 0, 2200, .inl (fun _ => 0)) : va_E) :: (.inl (ca 1, 4200, .inl (fun _ => 0)) : va_E) :: (.inl (ca 3, 140, .inl (fun _ => 0)) : va_E) :: (.inl (ca 1, 32768, .inl (fun _ => 0)) : va_E) :: (.inl (ca 0, 8, .inl (rt_fs 8)) : va_E) :: (.inl (ca 1, 4200, .inl (fun _ => 0)) : va_E) :: (.inl (ca 1, 4200, .inl (fun _ => 0)) : va_E) :: (.inl (ca 1, 4200, .inl (fun _ => 0)) : va_E) :: (.inl (ca 3, 19600, .inl (fun _ => 0)) : va_E) :: (.inl (ca 0, 19600, .inl (fun _ => 0)) : va_E) :: (.inl (ca 2, 1, .inr (.inl (fun _ => 0))) : va_E) :: L = lw_zl s0 ca 115 ((1, 4200, []) :: (2, 4200, []) :: (1, 140, []) :: (1, 140, []) :: (1, 140, []) :: (1, 140, []) :: (1, 140, []) :: (1, 140, []) :: (1, 2200, []) :: (1, 2200, []) :: (1, 2200, []) :: (1, 2200, []) :: (1, 2200, []) :: (2, 4200, []) :: (4, 140, []) :: (2, 32768, []) :: (1, 8, []) :: (2, 4200, []) :: (2, 4200, []) :: (2, 4200, []) :: (4, 19600, []) :: (1, 19600, []) :: (3, 1, []) :: r) := by
  refine lw_c2 (k := 115) (lw_a1 (fun j => rfl)) ?_
  refine lw_c2 (k := 116) (lw_a2 (fun j => rfl)) ?_
  refine lw_c2 (k := 117) (lw_a1 (fun j => rfl)) ?_
  refine lw_c2 (k := 118) (lw_a1 (fun j => rfl)) ?_
  refine lw_c2 (k := 119) (lw_a1 (fun j => rfl)) ?_
  refine lw_c2 (k := 120) (lw_a1 (fun j => rfl)) ?_
  refine lw_c2 (k := 121) (lw_a1 (fun j => rfl)) ?_
  refine lw_c2 (k := 122) (lw_a1 (fun j => rfl)) ?_
  refine lw_c2 (k := 123) (lw_a1 (fun j => rfl)) ?_
  refine lw_c2 (k := 124) (lw_a1 (fun j => rfl)) ?_
  refine lw_c2 (k := 125) (lw_a1 (fun j => rfl)) ?_
  refine lw_c2 (k := 126) (lw_a1 (fun j => rfl)) ?_
  refine lw_c2 (k := 127) (lw_a1 (fun j => rfl)) ?_
  refine lw_c2 (k := 128) (lw_a2 (fun j => rfl)) ?_
  refine lw_c2 (k := 129) (lw_a4 (fun j => rfl)) ?_
  refine lw_c2 (k := 130) (lw_a2 (fun j => rfl)) ?_
  refine lw_c2 (k := 131) (lw_a8 (fun j => rfl)) ?_
  refine lw_c2 (k := 132) (lw_a2 (fun j => rfl)) ?_
  refine lw_c2 (k := 133) (lw_a2 (fun j => rfl)) ?_
  refine lw_c2 (k := 134) (lw_a2 (fun j => rfl)) ?_
  refine lw_c2 (k := 135) (lw_a4 (fun j => rfl)) ?_
  refine lw_c2 (k := 136) (lw_a1 (fun j => rfl)) ?_
  refine lw_c2 (k := 137) (lw_a3 (fun j => rfl)) ?_
  exact h
set_option maxRecDepth 100000 in
theorem lw_Lz {s0 : State} {ca : Nat → ClassId} : lw_L s0 ca = lw_zl s0 ca 0 lw_sl := lw_lz0 (lw_lz23 (lw_lz46 (lw_lz69 (lw_lz92 (lw_lz115 rfl)))))
set_option maxRecDepth 100000 in
theorem lw_Wz (s0 : State) (ca : Nat → ClassId) : lw_W s0 ca = zw s0 ca (138, 298622) lw_S lw_m := by
  refine Prod.ext rfl (Prod.ext rfl (funext fun i => ?_))
  have h := rt_ap_at rt_w0 298622 (lw_L s0 ca) i
  rw [show rt_w0.1 + i = i from Nat.zero_add i] at h
  refine Eq.trans (show (lw_W s0 ca).2.2 i = _ from h) ?_
  rw [lw_Lz, lw_zl_at, Nat.zero_add]
  show _ = (lw_S (i : Int)).map (zcell s0 ca (lw_m (i : Int)))
  unfold lw_S
  rw [if_pos (Int.natCast_nonneg i), Int.toNat_natCast]
set_option maxRecDepth 100000 in
theorem lw_Sok : zSok lw_S := by
  have h : ((List.range 138).all fun k => decide (zL[k]? = some none) || decide (zL[k]? = some lw_sl[k]?)) = true := by decide +kernel
  intro i q hq
  unfold lw_S
  rw [if_pos (Int.natCast_nonneg i), Int.toNat_natCast]
  have hi : i < 138 := by
    have := (List.getElem?_eq_some_iff.mp hq).1
    exact Nat.lt_of_lt_of_le this zL_len
  have h := List.all_eq_true.mp h i (List.mem_range.mpr hi)
  rcases Bool.or_eq_true _ _ ▸ h with e | e
  · rw [of_decide_eq_true e] at hq
    cases Option.some.inj hq
  · rw [of_decide_eq_true e] at hq
    exact Option.some.inj hq
set_option maxRecDepth 100000 in
theorem lw_Sno : ∀ b : Int, 138 ≤ b → lw_S b = none := by
  intro b hb
  unfold lw_S
  rw [if_pos (by omega), List.getElem?_eq_none]
  show 138 ≤ b.toNat
  omega
set_option maxRecDepth 100000 in
theorem lw_cI : cI lw_S 138 lw_m [] (fun _ => none) [] (-1) [] (-1) 0 := by
  refine ⟨⟨lw_Sok, rfl, rfl, rfl, rfl, rfl, rfl⟩, ⟨fun _ => 30, fun k hk => ⟨fun _ => rfl, fun z hz => (nomatch hz)⟩, ⟨rfl, ⟨by decide, rfl, ?_⟩, by decide, by decide⟩, fun i j hi hj hn h1 h2 => ?_⟩, ⟨rfl, fun j hj => (nomatch hj)⟩, ⟨74, 79, Or.inl ⟨rfl, rfl⟩, rfl, rfl, rfl, fun j hj => (nomatch hj), rfl, fun j hj => (nomatch hj)⟩, rfl, ⟨rfl, fun j hj => (nomatch hj)⟩, rfl, ⟨⟨0, Nat.le_refl _, rfl, fun c hc => ⟨Int.le_refl _, Int.le_refl _⟩⟩, 0, Nat.le_refl _, rfl, fun c hc => ⟨Int.le_refl _, Int.le_refl _⟩⟩, rfl, rfl, rfl, rfl, rfl, rfl, rfl⟩
  · refine ⟨?_, ?_, ?_, ?_, ?_, ?_, ?_, ?_, ?_, ?_, ?_, ?_⟩ <;> exact ⟨by decide, by decide, by decide, rfl, rfl⟩
  · rcases h1 with e | e
    · rcases h2 with e2 | e2
      · exact absurd (e.trans e2.symm) hn
      · exact absurd rfl e2
    · exact absurd rfl e
set_option maxRecDepth 100000 in
theorem lw_mI : mI lw_m [] (fun _ => none) [] (-1) [] (-1) := by
  refine ⟨⟨rfl, fun j hj => (nomatch hj)⟩, fun k hk => ⟨fun _ => ?_, fun z hz => (nomatch hz)⟩, ⟨rfl, rfl, rfl, fun j hj => (nomatch hj)⟩, ⟨rfl, fun j hj => (nomatch hj)⟩, rfl⟩
  show (if 0 ≤ (k : Int) ∧ (k : Int) < 8 then (-1 : Int) else 0) = -1
  exact if_pos ⟨by omega, by omega⟩
theorem lw_dOk : dOk (fun _ => none) [] (-1) := ⟨fun k z h => (nomatch h), Or.inl ⟨rfl, rfl⟩, Nat.zero_le _, Nat.zero_le _⟩
/-- what the reference writes, and the law's own row, is nothing to the class .. -/
theorem cI.md {S : zS} {n : Nat} {M M1 : zM} {tb : List Nat} {ks : kST} {L : List (List Nat)} {ow : Int} {out : List Nat} {pl : Int} {a : Nat} (h : cI S n M tb ks L ow out pl a) (f : ∀ c j : Int, (c < 84 ∨ 137 < c) → M1 c j = M c j) : cI S n M1 tb ks L ow out pl a := by
  obtain ⟨h1, ⟨pf, h2⟩, h3, ⟨cu, sp, h4, h5, h6, h7⟩, h8, h9, h10, h11, h12⟩ := h
  have hcu : cu = 74 ∨ cu = 79 := h4.elim (fun h => Or.inl h.1) (fun h => Or.inr h.1)
  refine ⟨h1, ⟨pf, h2.fx (fun c j hc => f c j (by omega))⟩, ⟨(f _ _ (by decide)).trans h3.1, fun j hj => (f _ _ (by decide)).trans (h3.2 j hj)⟩, ⟨cu, sp, h4, (f _ _ (by decide)).trans h5, (f _ _ (by decide)).trans h6, h7.fr (fun c j c1 c2 => f c j (by omega))⟩, (f _ _ (by decide)).trans h8, ⟨(f _ _ (by decide)).trans h9.1, fun j hj => (f _ _ (by decide)).trans (h9.2 j hj)⟩, (f _ _ (by decide)).trans h10, h11.fr (fun c j h => f c j (by omega)), ?_⟩
  · obtain ⟨z1, z2, z3, z4, z5, z6, z7⟩ := h12
    exact ⟨(f _ _ (by decide)).trans z1, (f _ _ (by decide)).trans z2, (f _ _ (by decide)).trans z3, (f _ _ (by decide)).trans z4, (f _ _ (by decide)).trans z5, (f _ _ (by decide)).trans z6, (f _ _ (by decide)).trans z7⟩
/-- .. and what the class writes, and the law's own row, is nothing to the reference -/
theorem mI.mc {M M1 : zM} {tb : List Nat} {ks : kST} {L : List (List Nat)} {ow : Int} {out : List Nat} {pl : Int} (h : mI M tb ks L ow out pl) (f : ∀ c j : Int, 84 ≤ c → c ≤ 136 → M1 c j = M c j) : mI M1 tb ks L ow out pl := h.fr (fun c j hc => f c j (by omega) (by omega))
