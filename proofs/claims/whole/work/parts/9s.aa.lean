/-! ===== a new Schema ===== -/
/-- the shapes of a new Schema at n -/
def nSh (n : Nat) : List zSh := [(0, 6, [(3, ((n + 1 : Nat) : Int)), (3, ((n + 3 : Nat) : Int)), (3, ((n + 5 : Nat) : Int)), (3, ((n + 7 : Nat) : Int)), (3, ((n + 9 : Nat) : Int)), (3, ((n + 11 : Nat) : Int)), (3, ((n + 13 : Nat) : Int)), (3, ((n + 15 : Nat) : Int)), (3, ((n + 17 : Nat) : Int)), (3, ((n + 19 : Nat) : Int)), (3, ((n + 21 : Nat) : Int)), (3, ((n + 23 : Nat) : Int)), (0, 0)]),
  (0, 0, [(3, ((n + 2 : Nat) : Int)), (0, 0)]), (1, 134, []), (0, 0, [(3, ((n + 4 : Nat) : Int)), (0, 0)]), (1, 134, []), (0, 0, [(3, ((n + 6 : Nat) : Int)), (0, 0)]), (1, 134, []), (0, 0, [(3, ((n + 8 : Nat) : Int)), (0, 0)]), (1, 134, []), (0, 0, [(3, ((n + 10 : Nat) : Int)), (0, 0)]), (1, 134, []), (0, 0, [(3, ((n + 12 : Nat) : Int)), (0, 0)]), (1, 134, []),
  (0, 0, [(3, ((n + 14 : Nat) : Int)), (0, 0)]), (1, 2048, []), (0, 0, [(3, ((n + 16 : Nat) : Int)), (0, 0)]), (1, 2048, []), (0, 0, [(3, ((n + 18 : Nat) : Int)), (0, 0)]), (1, 2048, []), (0, 0, [(3, ((n + 20 : Nat) : Int)), (0, 0)]), (1, 2048, []), (0, 0, [(3, ((n + 22 : Nat) : Int)), (0, 0)]), (1, 4096, []), (0, 0, [(3, ((n + 24 : Nat) : Int)), (0, 0)]), (1, 8192, [])]
/-- the shapes with more objects from n on -/
def Sap (S : zS) (n : Nat) (Ls : List zSh) : zS := fun b => if (n : Int) ≤ b ∧ b < ((n + Ls.length : Nat) : Int) then Ls[(b - n).toNat]? else S b
def Map (M : zM) (n k : Nat) : zM := fun c j => if (n : Int) ≤ c ∧ c < ((n + k : Nat) : Int) then 0 else M c j
theorem zw_ap {s0 : State} {ca : Nat → ClassId} {C : Nat × Nat} {S : zS} {M : zM} {k : Nat} {L : List va_E} {Ls : List zSh} (hS : ∀ b : Int, (C.1 : Int) ≤ b → S b = none) (hL : L = Ls.map (zcell s0 ca (fun _ => 0))) : rt_ap (zw s0 ca C S M) k L = zw s0 ca (C.1 + Ls.length, C.2 + k) (Sap S C.1 Ls) (Map M C.1 Ls.length) := by
  subst hL
  refine Prod.ext ?_ (Prod.ext ?_ (funext fun i => ?_))
  · show C.1 + (Ls.map _).length = C.1 + Ls.length
    rw [List.length_map]
  · rfl
  · show (if i < C.1 then (S i).map (zcell s0 ca (M i)) else (Ls.map (zcell s0 ca (fun _ => 0)))[i - C.1]?) = (Sap S C.1 Ls i).map (zcell s0 ca (Map M C.1 Ls.length i))
    unfold Sap Map
    by_cases c1 : i < C.1
    · rw [if_pos c1, if_neg (by omega)]
      have e : (fun j => if (C.1 : Int) ≤ (i : Int) ∧ (i : Int) < ((C.1 + Ls.length : Nat) : Int) then 0 else M i j) = M i := funext fun j => if_neg (by omega)
      rw [e]
    · rw [if_neg c1]
      by_cases c2 : i < C.1 + Ls.length
      · rw [if_pos ⟨by omega, by omega⟩, List.getElem?_map, show ((i : Int) - (C.1 : Int)).toNat = i - C.1 by omega]
        have e : (fun j : Int => if (C.1 : Int) ≤ (i : Int) ∧ (i : Int) < ((C.1 + Ls.length : Nat) : Int) then (0 : Int) else M i j) = fun _ => 0 := funext fun j => if_pos ⟨by omega, by omega⟩
        rw [e]
      · rw [if_neg (by omega), hS i (by omega), List.getElem?_eq_none (by rw [List.length_map]; omega)]
        rfl
theorem zv_n (s0 : State) (n : Nat) : zv s0 2 ((n : Nat) : Int) = rt_r s0 n := by
  rw [zv_ref (Int.natCast_nonneg n)]
  rfl
theorem nSh_L (s0 : State) (ca : Nat → ClassId) (n : Nat) : ([.inr (6, [rt_r s0 (n + 1), rt_r s0 (n + 3), rt_r s0 (n + 5), rt_r s0 (n + 7), rt_r s0 (n + 9), rt_r s0 (n + 11), rt_r s0 (n + 13), rt_r s0 (n + 15), rt_r s0 (n + 17), rt_r s0 (n + 19), rt_r s0 (n + 21), rt_r s0 (n + 23), .int 0]), .inr (0, [rt_r s0 (n + 2), .int 0]), .inl (ca 0, 134, .inl (fun _ => 0)), .inr (0, [rt_r s0 (n + 4), .int 0]), .inl (ca 0, 134, .inl (fun _ => 0)), .inr (0, [rt_r s0 (n + 6), .int 0]), .inl (ca 0, 134, .inl (fun _ => 0)), .inr (0, [rt_r s0 (n + 8), .int 0]), .inl (ca 0, 134, .inl (fun _ => 0)), .inr (0, [rt_r s0 (n + 10), .int 0]), .inl (ca 0, 134, .inl (fun _ => 0)), .inr (0, [rt_r s0 (n + 12), .int 0]), .inl (ca 0, 134, .inl (fun _ => 0)), .inr (0, [rt_r s0 (n + 14), .int 0]), .inl (ca 0, 2048, .inl (fun _ => 0)), .inr (0, [rt_r s0 (n + 16), .int 0]), .inl (ca 0, 2048, .inl (fun _ => 0)), .inr (0, [rt_r s0 (n + 18), .int 0]), .inl (ca 0, 2048, .inl (fun _ => 0)), .inr (0, [rt_r s0 (n + 20), .int 0]), .inl (ca 0, 2048, .inl (fun _ => 0)), .inr (0, [rt_r s0 (n + 22), .int 0]), .inl (ca 0, 4096, .inl (fun _ => 0)), .inr (0, [rt_r s0 (n + 24), .int 0]), .inl (ca 0, 8192, .inl (fun _ => 0))] : List va_E) = (nSh n).map (zcell s0 ca (fun _ => 0)) := by
  have hr : ∀ k : Nat, rt_r s0 k = zv s0 2 ((k : Nat) : Int) := fun k => (zv_n s0 k).symm
  have h0 : (.int 0 : Value) = zv s0 0 0 := rfl
  simp only [hr, h0]
  rfl
theorem Sap_sc {S : zS} {n : Nat} : zSc (Sap S n (nSh n)) (n : Int) := by
  have at' : ∀ (k : Nat), k < 25 → Sap S n (nSh n) ((n + k : Nat) : Int) = (nSh n)[k]? := fun k hk => by
    unfold Sap
    rw [if_pos ⟨by omega, by show ((n + k : Nat) : Int) < ((n + 25 : Nat) : Int); omega⟩, show (((n + k : Nat) : Int) - (n : Int)).toNat = k by omega]
  have a0 := at' 0 (by decide)
  rw [Nat.add_zero] at a0
  refine ⟨Int.natCast_nonneg n, a0, ?_, ?_, ?_, ?_, ?_, ?_, ?_, ?_, ?_, ?_, ?_, ?_⟩
  · exact ⟨by omega, by omega, by decide, at' 1 (by decide), at' 2 (by decide)⟩
  · exact ⟨by omega, by omega, by decide, at' 3 (by decide), at' 4 (by decide)⟩
  · exact ⟨by omega, by omega, by decide, at' 5 (by decide), at' 6 (by decide)⟩
  · exact ⟨by omega, by omega, by decide, at' 7 (by decide), at' 8 (by decide)⟩
  · exact ⟨by omega, by omega, by decide, at' 9 (by decide), at' 10 (by decide)⟩
  · exact ⟨by omega, by omega, by decide, at' 11 (by decide), at' 12 (by decide)⟩
  · exact ⟨by omega, by omega, by decide, at' 13 (by decide), at' 14 (by decide)⟩
  · exact ⟨by omega, by omega, by decide, at' 15 (by decide), at' 16 (by decide)⟩
  · exact ⟨by omega, by omega, by decide, at' 17 (by decide), at' 18 (by decide)⟩
  · exact ⟨by omega, by omega, by decide, at' 19 (by decide), at' 20 (by decide)⟩
  · exact ⟨by omega, by omega, by decide, at' 21 (by decide), at' 22 (by decide)⟩
  · exact ⟨by omega, by omega, by decide, at' 23 (by decide), at' 24 (by decide)⟩
