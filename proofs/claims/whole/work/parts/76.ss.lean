/-! ===== a text as a schema: what it says ===== -/
def xx (xs : List JR) (j : Nat) : JR := xs.getD j (0, 0, 0, [], none, 0, 0, false)
/-- siblings, c of them from i on -/
def xKid (xs : List JR) : Nat → Nat → List Nat
  | 0, _ => []
  | c + 1, i => i :: xKid xs c (i + (xx xs i).sz)
def xKids (xs : List JR) (v : Nat) : List Nat := xKid xs (xx xs v).len (v + 1)
def xFind (xs : List JR) (w : List Int32) : List Nat → Option Nat
  | [] => none
  | j :: r => if (xx xs j).kw = some w then some j else xFind xs w r
/-- an object's member -/
def xMem (xs : List JR) (v : Nat) (w : List Int32) : Option Nat := xFind xs w (xKids xs v)
def oI : Option Nat → Int
  | none => -1
  | some n => n
def sSix (ws : List Int32) : Option Nat := if ws = iw [110, 117, 108, 108] then some 0 else if ws = iw [98, 111, 111, 108, 101, 97, 110] then some 1 else if ws = iw [105, 110, 116] then some 2 else if ws = iw [108, 111, 110, 103] then some 3 else if ws = iw [98, 121, 116, 101, 115] then some 4 else if ws = iw [115, 116, 114, 105, 110, 103] then some 5 else none
def sCom (ws : List Int32) : Option Nat := if ws = iw [97, 114, 114, 97, 121] then some 6 else if ws = iw [109, 97, 112] then some 7 else if ws = iw [102, 105, 120, 101, 100] then some 9 else if ws = iw [101, 110, 117, 109] then some 10 else if ws = iw [114, 101, 99, 111, 114, 100] then some 11 else none
/-- a part of a node: its name, its node once known, its default's value, the reference's number of it -/
abbrev SP : Type := List Int32 × Option Nat × Option Nat × Nat
abbrev SP.nm (x : SP) : List Int32 := x.1
abbrev SP.nd (x : SP) : Option Nat := x.2.1
abbrev SP.df (x : SP) : Option Nat := x.2.2.1
abbrev SP.kn (x : SP) : Nat := x.2.2.2
/-- a node: its kind, its name with the value that says it, its detail, how many parts it shall have, its parts -/
abbrev SN : Type := Nat × Option (List Int32 × Nat) × Int × Nat × List SP
abbrev SN.kd (x : SN) : Nat := x.1
abbrev SN.nm (x : SN) : Option (List Int32 × Nat) := x.2.1
abbrev SN.dt (x : SN) : Int := x.2.2.1
abbrev SN.ct (x : SN) : Nat := x.2.2.2.1
abbrev SN.ps (x : SN) : List SP := x.2.2.2.2
/-- how many were looked at, the reference's kids, the nodes behind the six, the fields that are done -/
abbrev SS : Type := Nat × Nat × List SN × List (Nat × Nat × Option Nat)
abbrev SS.lk (x : SS) : Nat := x.1
abbrev SS.kc (x : SS) : Nat := x.2.1
abbrev SS.ns (x : SS) : List SN := x.2.2.1
abbrev SS.lt (x : SS) : List (Nat × Nat × Option Nat) := x.2.2.2
def nN (ns : List SN) (s : Nat) : SN := if s < 6 then (s, none, -1, 0, []) else ns.getD (s - 6) (0, none, -1, 0, [])
def nPut (ns : List SN) (s : Nat) (n : SN) : List SN := ns.set (s - 6) n
def sNew (st : SS) (kd : Nat) (nm : Option (List Int32 × Nat)) (ct : Nat) : SS := (st.lk, st.kc, st.ns ++ [(kd, nm, -1, ct, [])], st.lt)
def sNum (st : SS) : Nat := 6 + st.ns.length
/-- a node gets a part -/
def sAdd (st : SS) (s : Nat) (nm : List Int32) (nd df : Option Nat) : SS :=
  (st.lk, st.kc + 1, nPut st.ns s ((nN st.ns s).kd, (nN st.ns s).nm, (nN st.ns s).dt, (nN st.ns s).ct, (nN st.ns s).ps ++ [(nm, nd, df, st.kc)]), st.lt)
def pSet (ps : List SP) (k n : Nat) : List SP := ps.modify k (fun q => (q.nm, some n, q.df, q.kn))
/-- a part's node is known -/
def sPut (st : SS) (s k n : Nat) : SS :=
  (st.lk, st.kc, nPut st.ns s ((nN st.ns s).kd, (nN st.ns s).nm, (nN st.ns s).dt, (nN st.ns s).ct, pSet (nN st.ns s).ps k n), st.lt)
def sDet (st : SS) (s : Nat) (x : Int) : SS :=
  (st.lk, st.kc, nPut st.ns s ((nN st.ns s).kd, (nN st.ns s).nm, x, (nN st.ns s).ct, (nN st.ns s).ps), st.lt)
def sCnt (st : SS) (s ct : Nat) : SS :=
  (st.lk, st.kc, nPut st.ns s ((nN st.ns s).kd, (nN st.ns s).nm, (nN st.ns s).dt, ct, (nN st.ns s).ps), st.lt)
def sDone (st : SS) (s k : Nat) (df : Option Nat) : SS := (st.lk, st.kc, st.ns, st.lt ++ [(s, k, df)])
/-- the node that has a name, from the number s on -/
def sDefL (w : List Int32) : List SN → Nat → Option Nat
  | [], _ => none
  | n :: r, s => if n.nm.map (fun q => q.1) = some w then some s else sDefL w r (s + 1)
def sDef (ns : List SN) (w : List Int32) : Option Nat := sDefL w ns 6
def sPrtL (w : List Int32) : List SP → Nat → Option Nat
  | [], _ => none
  | q :: r, k => if q.nm = w then some k else sPrtL w r (k + 1)
/-- the part that has a name -/
def sPrt (ps : List SP) (w : List Int32) : Option Nat := sPrtL w ps 0
abbrev sLet (c : Int) : Prop := (97 ≤ c ∧ c ≤ 122) ∨ (65 ≤ c ∧ c ≤ 90) ∨ c = 95
def sChr : List Int32 → Nat → Bool
  | [], _ => true
  | c :: r, k => (decide (sLet c.toInt) || (decide (0 < k) && decide (48 ≤ c.toInt ∧ c.toInt ≤ 57))) && sChr r (k + 1)
def sNam (ws : List Int32) : Bool := decide (1 ≤ ws.length ∧ ws.length ≤ 32) && sChr ws 0
def sAlk (ns : List SN) (o n : Nat) : Bool := decide (o = n) || (decide ((nN ns n).kd = 6 ∨ (nN ns n).kd = 7) && decide ((nN ns o).kd = (nN ns n).kd))
def sLik (ns : List SN) (s n : Nat) : Bool := (nN ns s).ps.any (fun q => match q.nd with | none => false | some o => sAlk ns o n)
def sKnw (xs : List JR) (st : SS) (v : Nat) : Except (Nat × Nat) (Nat × SS) :=
  match sSix (xx xs v).ws with
  | some n => .ok (n, st)
  | none => match sDef st.ns (xx xs v).ws with
    | some s => .ok (s, st)
    | none => .error (3, (xx xs v).bg)
def sDfn (xs : List JR) (st : SS) (v kd : Nat) : Except (Nat × Nat) (Nat × SS) :=
  match xMem xs v (iw [110, 97, 109, 101]) with
  | none => .error (8, (xx xs v).bg)
  | some n =>
    if (xx xs n).kd = 3 then
      if sNam (xx xs n).ws = true ∧ sSix (xx xs n).ws = none ∧ sCom (xx xs n).ws = none ∧ sDef st.ns (xx xs n).ws = none then .ok (sNum st, sNew st kd (some ((xx xs n).ws, n)) 0)
      else .error (9, (xx xs n).bg)
    else .error (8, (xx xs v).bg)
def sFix (xs : List JR) (v s : Nat) (st : SS) : Except (Nat × Nat) (Nat × SS) :=
  match xMem xs v (iw [115, 105, 122, 101]) with
  | none => .error (8, (xx xs v).bg)
  | some m => if (xx xs m).kd = 4 ∧ 0 ≤ (xx xs m).num.toInt ∧ (xx xs m).num.toInt ≤ 64 then .ok (s, sDet st s (xx xs m).num.toInt) else .error (10, (xx xs m).bg)
def sSym (xs : List JR) (s : Nat) : List Nat → SS → Except (Nat × Nat) SS
  | [], st => .ok st
  | b :: bs, st => if (xx xs b).kd = 3 ∧ sNam (xx xs b).ws = true ∧ sPrt (nN st.ns s).ps (xx xs b).ws = none then sSym xs s bs (sAdd st s (xx xs b).ws none none) else .error (11, (xx xs b).bg)
def sFbk (xs : List JR) (v s : Nat) (st : SS) : Except (Nat × Nat) (Nat × SS) :=
  match xMem xs v (iw [100, 101, 102, 97, 117, 108, 116]) with
  | none => .ok (s, st)
  | some m =>
    if (xx xs m).kd = 3 then match sPrt (nN st.ns s).ps (xx xs m).ws with
      | some k => .ok (s, sDet st s k)
      | none => .error (12, (xx xs m).bg)
    else .error (12, (xx xs m).bg)
def sEnm (xs : List JR) (v s : Nat) (st : SS) : Except (Nat × Nat) (Nat × SS) :=
  match xMem xs v (iw [115, 121, 109, 98, 111, 108, 115]) with
  | none => .error (8, (xx xs v).bg)
  | some t => if (xx xs t).kd = 2 ∧ 1 ≤ (xx xs t).len ∧ (xx xs t).len ≤ 32 then match sSym xs s (xKids xs t) (sCnt st s (xx xs t).len) with
      | .error e => .error e
      | .ok st1 => sFbk xs v s st1
    else .error (11, (xx xs t).bg)
def sBrn (xs : List JR) (L : Nat → Bool → SS → Except (Nat × Nat) (Nat × SS)) (s : Nat) : List Nat → SS → Except (Nat × Nat) SS
  | [], st => .ok st
  | b :: bs, st => match L b true st with
    | .error e => .error e
    | .ok (n, st1) => if sLik st1.ns s n = true then .error (6, (xx xs b).bg) else sBrn xs L s bs (sAdd st1 s [] (some n) none)
def sUni (xs : List JR) (L : Nat → Bool → SS → Except (Nat × Nat) (Nat × SS)) (v : Nat) (st : SS) : Except (Nat × Nat) (Nat × SS) :=
  if 1 ≤ (xx xs v).len ∧ (xx xs v).len ≤ 16 then match sBrn xs L (sNum st) (xKids xs v) (sNew st 8 none (xx xs v).len) with
    | .error e => .error e
    | .ok st1 => .ok (sNum st, st1)
  else .error (5, (xx xs v).bg)
def sFld (xs : List JR) (L : Nat → Bool → SS → Except (Nat × Nat) (Nat × SS)) (s f : Nat) (st : SS) : Except (Nat × Nat) SS :=
  if (xx xs f).kd = 1 then match xMem xs f (iw [110, 97, 109, 101]) with
    | none => .error (8, (xx xs f).bg)
    | some n => if (xx xs n).kd = 3 then
        if sNam (xx xs n).ws = true ∧ sPrt (nN st.ns s).ps (xx xs n).ws = none then match xMem xs f (iw [116, 121, 112, 101]) with
          | none => .error (8, (xx xs f).bg)
          | some t => match L t false (sAdd st s (xx xs n).ws none (xMem xs f (iw [100, 101, 102, 97, 117, 108, 116]))) with
            | .error e => .error e
            | .ok (m, st1) => .ok (sDone (sPut st1 s (nN st.ns s).ps.length m) s (nN st.ns s).ps.length (xMem xs f (iw [100, 101, 102, 97, 117, 108, 116])))
        else .error (9, (xx xs n).bg)
      else .error (8, (xx xs f).bg)
  else .error (11, (xx xs f).bg)
def sFds (xs : List JR) (L : Nat → Bool → SS → Except (Nat × Nat) (Nat × SS)) (s : Nat) : List Nat → SS → Except (Nat × Nat) SS
  | [], st => .ok st
  | f :: fs, st => match sFld xs L s f st with
    | .error e => .error e
    | .ok st1 => sFds xs L s fs st1
def sRec (xs : List JR) (L : Nat → Bool → SS → Except (Nat × Nat) (Nat × SS)) (v s : Nat) (st : SS) : Except (Nat × Nat) (Nat × SS) :=
  match xMem xs v (iw [102, 105, 101, 108, 100, 115]) with
  | none => .error (8, (xx xs v).bg)
  | some t => if (xx xs t).kd = 2 ∧ (xx xs t).len ≤ 32 then match sFds xs L s (xKids xs t) (sCnt st s (xx xs t).len) with
      | .error e => .error e
      | .ok st1 => .ok (s, st1)
    else .error (11, (xx xs t).bg)
def sItm (xs : List JR) (L : Nat → Bool → SS → Except (Nat × Nat) (Nat × SS)) (v kd : Nat) (w : List Int32) (st : SS) : Except (Nat × Nat) (Nat × SS) :=
  match xMem xs v w with
  | none => .error (8, (xx xs v).bg)
  | some i => match L i false (sAdd (sNew st kd none 0) (sNum st) [] none none) with
    | .error e => .error e
    | .ok (n, st1) => .ok (sNum st, sPut st1 (sNum st) 0 n)
def sNmd (xs : List JR) (L : Nat → Bool → SS → Except (Nat × Nat) (Nat × SS)) (v kd : Nat) (st : SS) : Except (Nat × Nat) (Nat × SS) :=
  match sDfn xs st v kd with
  | .error e => .error e
  | .ok (s, st1) => if kd = 9 then sFix xs v s st1 else if kd = 10 then sEnm xs v s st1 else sRec xs L v s st1
def sObj (xs : List JR) (L : Nat → Bool → SS → Except (Nat × Nat) (Nat × SS)) (v : Nat) (st : SS) : Except (Nat × Nat) (Nat × SS) :=
  match xMem xs v (iw [116, 121, 112, 101]) with
  | none => .error (7, (xx xs v).bg)
  | some t => if (xx xs t).kd = 3 then
      match sCom (xx xs t).ws with
      | none => sKnw xs st t
      | some k => if k = 6 then sItm xs L v 6 (iw [105, 116, 101, 109, 115]) st else if k = 7 then sItm xs L v 7 (iw [118, 97, 108, 117, 101, 115]) st else sNmd xs L v k st
    else .error (7, (xx xs v).bg)
/-- what the value v says as a schema; m is how much deeper it may go -/
def sLook (xs : List JR) : Nat → Nat → Bool → SS → Except (Nat × Nat) (Nat × SS)
  | m, v, br, st =>
    if 128 ≤ st.lk then .error (13, (xx xs v).bg)
    else match m with
      | 0 => .error (14, (xx xs v).bg)
      | m + 1 =>
        if (xx xs v).kd = 3 then sKnw xs (st.lk + 1, st.2) v
        else if (xx xs v).kd = 2 then if br = true then .error (4, (xx xs v).bg) else sUni xs (sLook xs m) v (st.lk + 1, st.2)
        else if (xx xs v).kd = 1 then sObj xs (sLook xs m) v (st.lk + 1, st.2)
        else .error (2, (xx xs v).bg)
/-- the whole text as a schema, its defaults not yet looked at -/
def sTop (xs : List JR) : Except (Nat × Nat) (Nat × SS) := sLook xs 16 0 false (0, 0, [], [])
/-! ===== where values stand ===== -/
theorem xx_get {xs : List JR} {i : Nat} {x : JR} (h : xs[i]? = some x) : xx xs i = x := by
  unfold xx
  rw [List.getD_eq_getElem?_getD, h]
  rfl
theorem xx_lt {xs : List JR} {i : Nat} (h : i < xs.length) : xs[i]? = some (xx xs i) := by
  unfold xx
  rw [List.getD_eq_getElem?_getD, List.getElem?_eq_getElem h]
  rfl
theorem jWf_at : ∀ {xs : List JR} {v : Nat}, jWf xs → v < xs.length → (1 ≤ (xx xs v).kd ∧ (xx xs v).kd ≤ 7) ∧ (xx xs v).bg ≤ 2000 ∧ 1 ≤ (xx xs v).sz ∧ v + (xx xs v).sz ≤ xs.length ∧ (xx xs v).len + v + 1 ≤ xs.length ∧ (((xx xs v).kd = 1 ∨ (xx xs v).kd = 2) → kidsL (xx xs v).len (xs.drop (v + 1)) ((xx xs v).sz - 1) (decide ((xx xs v).kd = 1))) ∧ (¬ ((xx xs v).kd = 1 ∨ (xx xs v).kd = 2) → (xx xs v).len = 0 ∧ (xx xs v).sz = 1) := by
  intro xs
  induction xs with
  | nil => intro v _ h; exact absurd h (Nat.not_lt_zero _)
  | cons x xs ih =>
    intro v hw hv
    obtain ⟨h1, h2, h3, h4, h5, h6, h7, h8⟩ := hw
    cases v with
    | zero =>
      have e : xx (x :: xs) 0 = x := rfl
      rw [e, List.length_cons]
      exact ⟨h1, h2, h3, by omega, by omega, h6, h7⟩
    | succ v =>
      have e : xx (x :: xs) (v + 1) = xx xs v := rfl
      rw [List.length_cons] at hv
      obtain ⟨g1, g2, g3, g4, g5, g6, g7⟩ := ih h8 (show v < xs.length by omega)
      rw [e, List.length_cons]
      exact ⟨g1, g2, g3, by omega, by omega, g6, g7⟩
/-- siblings, one step on -/
theorem kidsL_step {xs : List JR} {c i n : Nat} {o : Bool} (h : kidsL (c + 1) (xs.drop i) n o) : i < xs.length ∧ 1 ≤ (xx xs i).sz ∧ (xx xs i).sz ≤ n ∧ (xx xs i).more = decide (0 < c) ∧ (xx xs i).kw.isSome = o ∧ kidsL c (xs.drop (i + (xx xs i).sz)) (n - (xx xs i).sz) o := by
  obtain ⟨y, r, h1, h2, h3, h4, h5, h6⟩ := h
  have hy : xs[i]? = some y := by
    have := congrArg (fun l => l[0]?) h1
    simpa using this
  have e := xx_get hy
  rw [e]
  refine ⟨?_, h2, h3, h4, h5, ?_⟩
  · by_cases c9 : i < xs.length
    · exact c9
    · rw [List.getElem?_eq_none (by omega)] at hy; exact nomatch hy
  · rw [List.drop_drop] at h6
    exact h6
/-- a member found is a sibling -/
theorem xFind_mem {xs : List JR} {w : List Int32} : ∀ {l : List Nat} {j : Nat}, xFind xs w l = some j → j ∈ l ∧ (xx xs j).kw = some w := by
  intro l
  induction l with
  | nil => intro j h; exact nomatch h
  | cons a r ih =>
    intro j h
    unfold xFind at h
    by_cases c : (xx xs a).kw = some w
    · rw [if_pos c] at h
      cases h
      exact ⟨List.mem_cons_self, c⟩
    · rw [if_neg c] at h
      exact ⟨List.mem_cons_of_mem _ (ih h).1, (ih h).2⟩
/-- siblings lie within their bracket -/
theorem xKid_mem {xs : List JR} {o : Bool} : ∀ {c i n : Nat}, kidsL c (xs.drop i) n o → ∀ j ∈ xKid xs c i, i ≤ j ∧ j + (xx xs j).sz ≤ i + n ∧ j < xs.length ∧ 1 ≤ (xx xs j).sz := by
  intro c
  induction c with
  | zero => intro i n _ j hj; exact nomatch hj
  | succ c ih =>
    intro i n h j hj
    obtain ⟨g1, g2, g3, g4, g5, g6⟩ := kidsL_step h
    rcases List.mem_cons.mp hj with e | e
    · subst e
      exact ⟨Nat.le_refl _, by omega, g1, g2⟩
    · obtain ⟨k1, k2, k3, k4⟩ := ih g6 j e
      exact ⟨by omega, by omega, k3, k4⟩
theorem xKids_mem {xs : List JR} {v j : Nat} (hw : jWf xs) (hv : v < xs.length) (hj : j ∈ xKids xs v) : v < j ∧ j + (xx xs j).sz ≤ v + (xx xs v).sz ∧ j < xs.length ∧ ((xx xs v).kd = 1 ∨ (xx xs v).kd = 2) := by
  obtain ⟨g1, g2, g3, g4, g5, g6, g7⟩ := jWf_at hw hv
  by_cases c : (xx xs v).kd = 1 ∨ (xx xs v).kd = 2
  · obtain ⟨k1, k2, k3, k4⟩ := xKid_mem (g6 c) j hj
    exact ⟨by omega, by omega, k3, c⟩
  · unfold xKids at hj
    rw [(g7 c).1] at hj
    exact nomatch hj
theorem xMem_mem {xs : List JR} {v j : Nat} {w : List Int32} (hw : jWf xs) (hv : v < xs.length) (h : xMem xs v w = some j) : v < j ∧ j + (xx xs j).sz ≤ v + (xx xs v).sz ∧ j < xs.length := by
  obtain ⟨a, b, c, -⟩ := xKids_mem hw hv (xFind_mem h).1
  exact ⟨a, b, c⟩
