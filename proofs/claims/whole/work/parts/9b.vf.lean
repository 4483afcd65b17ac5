/-! ===== the bytes of a default: what a value says in a node's form ===== -/
def sPn (q : Option SP) : Nat := match q with
  | none => 0
  | some x => match x.nd with
    | none => 0
    | some n => n
/-- the node of the first part -/
def sKid0 (ns : List SN) (s : Nat) : Nat := sPn ((nN ns s).ps[0]?)
def sLtr (ws : List Int32) : List Nat := ws.map (fun c => c.toInt.toNat)
def sStr (ws : List Int32) : List Nat := vB ws.length ++ sLtr ws
/-- a value of a node that has no others within it -/
def sPla (ns : List SN) (x : JR) (s : Nat) : Option (List Nat) :=
  if (nN ns s).kd = 0 then if x.kd = 7 then some [] else none
  else if (nN ns s).kd = 1 then if x.kd = 5 then some [1] else if x.kd = 6 then some [0] else none
  else if (nN ns s).kd = 2 then if x.kd = 4 ∧ x.num.toInt = w32 x.num.toInt then some (vB x.num.toInt) else none
  else if (nN ns s).kd = 3 then if x.kd = 4 then some (vB x.num.toInt) else none
  else if (nN ns s).kd = 4 ∨ (nN ns s).kd = 5 then if x.kd = 3 then some (sStr x.ws) else none
  else if (nN ns s).kd = 9 then if x.kd = 3 ∧ (x.ws.length : Int) = (nN ns s).dt then some (sLtr x.ws) else none
  else if (nN ns s).kd = 10 then if x.kd = 3 then match sPrt (nN ns s).ps x.ws with
      | none => none
      | some i => some (vB i)
    else none
  else none
def sMap (h : List Nat → List Nat) : Except Nat (List Nat) → Except Nat (List Nat)
  | .error e => .error e
  | .ok b => .ok (h b)
def sCat (f : Nat → Except Nat (List Nat)) : List Nat → Except Nat (List Nat)
  | [] => .ok []
  | j :: r => match f j with
    | .error e => .error e
    | .ok b => sMap (fun c => b ++ c) (sCat f r)
/-- items, their number before them if there are any, and an end -/
def sItb (n : Nat) (b : List Nat) : List Nat := (if 0 < n then vB n else []) ++ b ++ [0]
def sKyb (xs : List JR) (j : Nat) : List Nat := match (xx xs j).kw with
  | none => []
  | some k => sStr k
def sFlw (xs : List JR) (v : Nat) (f : Nat → Nat → Except Nat (List Nat)) : List SP → Except Nat (List Nat)
  | [] => .ok []
  | q :: r => match xMem xs v q.nm with
    | none => .error (xx xs v).bg
    | some j => match f j (sPn (some q)) with
      | .error e => .error e
      | .ok b => sMap (fun c => b ++ c) (sFlw xs v f r)
def sDw (xs : List JR) (ns : List SN) (f : Nat → Nat → Except Nat (List Nat)) (v s : Nat) : Except Nat (List Nat) :=
  if (nN ns s).kd = 6 then
    if (xx xs v).kd = 2 then sMap (sItb (xx xs v).len) (sCat (fun j => f j (sKid0 ns s)) (xKids xs v)) else .error (xx xs v).bg
  else if (nN ns s).kd = 7 then
    if (xx xs v).kd = 1 then sMap (sItb (xx xs v).len) (sCat (fun j => sMap (fun b => sKyb xs j ++ b) (f j (sKid0 ns s))) (xKids xs v)) else .error (xx xs v).bg
  else if (nN ns s).kd = 11 then
    if (xx xs v).kd = 1 then sFlw xs v f (nN ns s).ps else .error (xx xs v).bg
  else match sPla ns (xx xs v) s with
    | none => .error (xx xs v).bg
    | some b => .ok b
/-- the bytes, or where what does not fit begins -/
def sDv (xs : List JR) (ns : List SN) : Nat → Nat → Nat → Except Nat (List Nat)
  | 0, v, _ => .error (xx xs v).bg
  | m + 1, v, s => sMap (fun b => (if (nN ns s).kd = 8 then [0] else []) ++ b) (sDw xs ns (sDv xs ns m) v (if (nN ns s).kd = 8 then sKid0 ns s else s))
/-! how many there can be -/
def lSum (f : Nat → Nat) : List Nat → Nat
  | [] => 0
  | a :: r => f a + lSum f r
theorem lSum_erase {f : Nat → Nat} {a : Nat} : ∀ {l : List Nat}, a ∈ l → lSum f l = f a + lSum f (l.erase a) := by
  intro l
  induction l with
  | nil => intro h; exact nomatch h
  | cons b r ih =>
    intro h
    by_cases c : b = a
    · subst c
      rw [List.erase_cons_head]
      rfl
    · rw [List.erase_cons_tail (by simpa using c)]
      have h2 : a ∈ r := by
        rcases List.mem_cons.mp h with e | e
        · exact absurd e.symm c
        · exact e
      show f b + lSum f r = f a + (f b + lSum f (r.erase a))
      rw [ih h2]
      omega
theorem lSum_sub {f : Nat → Nat} : ∀ {l1 l2 : List Nat}, l1.Pairwise (fun a b => ¬ a = b) → (∀ a ∈ l1, a ∈ l2) → lSum f l1 ≤ lSum f l2 := by
  intro l1
  induction l1 with
  | nil => intro l2 _ _; exact Nat.zero_le _
  | cons a r ih =>
    intro l2 hp hs
    have hp2 := List.pairwise_cons.mp hp
    rw [lSum_erase (hs a List.mem_cons_self)]
    refine Nat.add_le_add_left (ih hp2.2 (fun b hb => ?_)) _
    exact (List.mem_erase_of_ne (fun e => hp2.1 b hb e.symm)).mpr (hs b (List.mem_cons_of_mem _ hb))
theorem lSum_le {f g : Nat → Nat} : ∀ {l : List Nat}, (∀ a ∈ l, f a ≤ g a) → lSum f l ≤ lSum g l := by
  intro l
  induction l with
  | nil => intro _; exact Nat.le_refl _
  | cons a r ih => intro h; exact Nat.add_le_add (h a List.mem_cons_self) (ih (fun b hb => h b (List.mem_cons_of_mem _ hb)))
/-- twelve bytes for each value, and its letters -/
def dW (xs : List JR) (j : Nat) : Nat := 12 * (xx xs j).sz + wS xs j (xx xs j).sz
/-- without its key, and one less -/
def dV (xs : List JR) (j : Nat) : Nat := dW xs j - 1 - jwl (xx xs j).kw
theorem dW_kids {xs : List JR} {o : Bool} : ∀ {c i n : Nat}, kidsL c (xs.drop i) n o → lSum (dW xs) (xKid xs c i) = 12 * n + wS xs i n := by
  intro c
  induction c with
  | zero =>
    intro i n h
    have e : n = 0 := h
    subst e
    rfl
  | succ c ih =>
    intro i n h
    obtain ⟨g1, g2, g3, -, -, g6⟩ := kidsL_step h
    show dW xs i + lSum (dW xs) (xKid xs c (i + (xx xs i).sz)) = _
    rw [ih g6]
    have := wS_add (xs := xs) (xx xs i).sz i (n - (xx xs i).sz)
    rw [show (xx xs i).sz + (n - (xx xs i).sz) = n by omega] at this
    rw [this]
    unfold dW
    omega
/-- what lies within a value -/
def dK (xs : List JR) (v : Nat) : Nat := 12 * ((xx xs v).sz - 1) + wS xs (v + 1) ((xx xs v).sz - 1)
theorem jlw_k (x : JR) : jlw x = (if x.kd = 3 then 1 + x.ws.length else 0) + jwl x.kw := rfl
theorem dV_eq {xs : List JR} {v : Nat} (hw : jWf xs) (hv : v < xs.length) : dV xs v = dK xs v + 11 + (if (xx xs v).kd = 3 then 1 + (xx xs v).ws.length else 0) := by
  have hs := (jWf_at hw hv).2.2.1
  have h1 : wS xs v (xx xs v).sz = jlw (xx xs v) + wS xs (v + 1) ((xx xs v).sz - 1) := by
    rw [show (xx xs v).sz = ((xx xs v).sz - 1) + 1 by omega]
    rfl
  unfold dV dW dK
  rw [h1, jlw_k]
  omega
theorem dV_key {xs : List JR} {v : Nat} (hw : jWf xs) (hv : v < xs.length) : dV xs v + 1 + jwl (xx xs v).kw = dW xs v := by
  have hs := (jWf_at hw hv).2.2.1
  have h1 : wS xs v (xx xs v).sz = jlw (xx xs v) + wS xs (v + 1) ((xx xs v).sz - 1) := by
    rw [show (xx xs v).sz = ((xx xs v).sz - 1) + 1 by omega]
    rfl
  unfold dV dW
  rw [h1, jlw_k]
  omega
theorem dK_kids {xs : List JR} {v : Nat} (hw : jWf xs) (hv : v < xs.length) : lSum (dW xs) (xKids xs v) ≤ dK xs v := by
  obtain ⟨-, -, g3, g4, g5, g6, g7⟩ := jWf_at hw hv
  by_cases c : (xx xs v).kd = 1 ∨ (xx xs v).kd = 2
  · exact Nat.le_of_eq (dW_kids (g6 c))
  · unfold xKids
    rw [(g7 c).1]
    exact Nat.zero_le _
/-- the members that a record's fields find -/
def fM (xs : List JR) (v : Nat) : List SP → List Nat
  | [] => []
  | q :: r => match xMem xs v q.nm with
    | none => fM xs v r
    | some j => j :: fM xs v r
theorem fM_mem {xs : List JR} {v j : Nat} : ∀ {ps : List SP}, j ∈ fM xs v ps → ∃ q ∈ ps, xMem xs v q.nm = some j := by
  intro ps
  induction ps with
  | nil => intro h; exact nomatch h
  | cons q r ih =>
    intro h
    unfold fM at h
    split at h
    · obtain ⟨q2, h1, h2⟩ := ih h
      exact ⟨q2, List.mem_cons_of_mem _ h1, h2⟩
    · rename_i k hk
      rcases List.mem_cons.mp h with e | e
      · exact ⟨q, List.mem_cons_self, by rw [hk, e]⟩
      · obtain ⟨q2, h1, h2⟩ := ih e
        exact ⟨q2, List.mem_cons_of_mem _ h1, h2⟩
theorem fM_nd {xs : List JR} {v : Nat} : ∀ {ps : List SP}, (ps.map (fun q => q.nm)).Pairwise (fun a b => ¬ a = b) → (fM xs v ps).Pairwise (fun a b => ¬ a = b) := by
  intro ps
  induction ps with
  | nil => intro _; exact List.Pairwise.nil
  | cons q r ih =>
    intro h
    rw [List.map_cons, List.pairwise_cons] at h
    unfold fM
    split
    · exact ih h.2
    · rename_i k hk
      rw [List.pairwise_cons]
      refine ⟨fun j hj e => ?_, ih h.2⟩
      obtain ⟨q2, h1, h2⟩ := fM_mem hj
      have k1 := (xFind_mem hk).2
      have k2 := (xFind_mem h2).2
      rw [e] at k1
      exact h.1 q2.nm (List.mem_map_of_mem h1) (Option.some.inj (k1.symm.trans k2))
/-- what fields may write -/
def fW (xs : List JR) (v : Nat) (ps : List SP) : Nat := lSum (dV xs) (fM xs v ps)
theorem fW_le {xs : List JR} {v : Nat} (hw : jWf xs) (hv : v < xs.length) {ps : List SP} (hp : (ps.map (fun q => q.nm)).Pairwise (fun a b => ¬ a = b)) : fW xs v ps ≤ dK xs v := by
  refine Nat.le_trans (lSum_le (g := dW xs) (fun a _ => by unfold dV; omega)) (Nat.le_trans (lSum_sub (fM_nd hp) (fun a ha => ?_)) (dK_kids hw hv))
  obtain ⟨q, -, h⟩ := fM_mem ha
  exact (xFind_mem h).1
theorem fW_cons {xs : List JR} {v j : Nat} {q : SP} {r : List SP} (h : xMem xs v q.nm = some j) : fW xs v (q :: r) = dV xs j + fW xs v r := by
  unfold fW
  have e : fM xs v (q :: r) = j :: fM xs v r := by
    show (match xMem xs v q.nm with | none => fM xs v r | some j => j :: fM xs v r) = _
    rw [h]
  rw [e]
  rfl
/-- the varint of a length is short -/
theorem uB_short {u : Nat} (h : u < 16384) : (uB 10 u).length ≤ 2 := by
  unfold uB
  split
  · exact Nat.le_succ 1
  · unfold uB
    rw [if_pos (by omega)]
    exact Nat.le_refl 2
theorem vB_short {n : Nat} (h : n < 8192) : (vB (n : Int)).length ≤ 2 := by
  unfold vB zz
  rw [if_pos (by omega)]
  exact uB_short (by omega)
theorem vB_le {x : Int} : (vB x).length ≤ 10 := uB_len
