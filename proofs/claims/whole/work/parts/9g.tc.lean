/-! ===== a datum told as another schema's: what is told ===== -/
/-- bytes, and whether it ends unresolved -/
abbrev tU : Type := List Nat × Bool
def tSq (a b : tU) : tU := if a.2 = true then a else (a.1 ++ b.1, b.2)
def tIt (f : List Nat → tU → Prop) (mp : Bool) : Nat → List Nat → tU → Prop
  | 0, w, o => w = [] ∧ o = ([], false)
  | c + 1, w, o => ∃ (k i r : List Nat) (o1 o2 : tU), w = k ++ (i ++ r) ∧ yNk mp k ∧ f i o1 ∧ tIt f mp c r o2 ∧ o = tSq (k, false) (tSq o1 o2)
/-- a row of fields, each with its bytes -/
def tFs (f : Nat → List Nat → Prop) : List SP → List (List Nat) → Prop
  | [], L => L = []
  | q :: r, L => ∃ (i : List Nat) (L1 : List (List Nat)), L = i :: L1 ∧ f (sPn (some q)) i ∧ tFs f r L1
def tDf (dB : SP → Option (List Nat)) (q : SP) : tU := match dB q with
  | none => ([], true)
  | some b => (b, false)
def tF1 (f : Nat → Nat → List Nat → tU → Prop) (dB : SP → Option (List Nat)) (ps : List SP) (L : List (List Nat)) (q : SP) (o : tU) : Prop :=
  (∀ i : Nat, sPrt ps q.nm = some i → ∃ (a : SP) (b : List Nat), ps[i]? = some a ∧ L[i]? = some b ∧ f (sPn (some a)) (sPn (some q)) b o) ∧ (sPrt ps q.nm = none → o = tDf dB q)
def tRf (f : Nat → Nat → List Nat → tU → Prop) (dB : SP → Option (List Nat)) (ps : List SP) (L : List (List Nat)) : List SP → tU → Prop
  | [], o => o = ([], false)
  | q :: r, o => ∃ o1 o2 : tU, tF1 f dB ps L q o1 ∧ tRf f dB ps L r o2 ∧ o = tSq o1 o2
def tSy (r : SN) (w : List Int32) : tU := match sPrt r.ps w with
  | some k => (vB (k : Int), false)
  | none => if 0 ≤ r.dt then (vB r.dt, false) else ([], true)
/-- neither is a union -/
def tPl (A B : List SN) (dB : SP → Option (List Nat)) (f : Nat → Nat → List Nat → tU → Prop) (g : Nat → List Nat → Prop) (w r : Nat) (bs : List Nat) (o : tU) : Prop :=
  if (nN A w).kd = 6 ∨ (nN A w).kd = 7 then
    if (nN B r).kd = (nN A w).kd then ∃ (c : Nat) (rest : List Nat) (o1 : tU), bs = yHd c rest ∧ c ≤ 2000 ∧ tIt (f (sKid0 A w) (sKid0 B r)) (decide ((nN A w).kd = 7)) c rest o1 ∧ o = (if c = 0 then (vB 0, false) else tSq (vB (c : Int), false) (tSq o1 (vB 0, false)))
    else o = ([], true)
  else if tPln A B w r = true then
    if (nN A w).kd = 11 then ∃ L : List (List Nat), bs = L.flatten ∧ tFs g (nN A w).ps L ∧ tRf f dB (nN A w).ps L (nN B r).ps o
    else if (nN A w).kd = 10 then ∃ (n : Nat) (z : SP), bs = vB (n : Int) ∧ (nN A w).ps[n]? = some z ∧ o = tSy (nN B r) z.nm
    else o = (bs, false)
  else o = ([], true)
def tBd (A B : List SN) (dB : SP → Option (List Nat)) (f : Nat → Nat → List Nat → tU → Prop) (g : Nat → List Nat → Prop) (w r : Nat) (bs : List Nat) (o : tU) : Prop :=
  if (nN A w).kd = 8 then ∃ (n : Nat) (rest : List Nat), bs = vB (n : Int) ++ rest ∧ n < (nN A w).ps.length ∧ f (sPn ((nN A w).ps[n]?)) r rest o
  else if (nN B r).kd = 8 then (tFst A B w r = none → o = ([], true)) ∧ ∀ k : Nat, tFst A B w r = some k → ∃ o1 : tU, tPl A B dB f g w (sPn ((nN B r).ps[k]?)) bs o1 ∧ o = tSq (vB (k : Int), false) o1
  else tPl A B dB f g w r bs o
def tT (A B : List SN) (dB : SP → Option (List Nat)) : Nat → Nat → Nat → List Nat → tU → Prop
  | 0, _, _, _, _ => False
  | m + 1, w, r, bs, o => yN A (m + 1) w bs ∧ tBd A B dB (tT A B dB m) (yN A m) w r bs o
theorem yNb_8 {f : Nat → List Nat → Prop} {ns : List SN} {s : Nat} {w : List Nat} (h : yNb f ns s w) (k : (nN ns s).kd = 8) : ∃ (n : Nat) (r : List Nat), w = vB (n : Int) ++ r ∧ n < (nN ns s).ps.length ∧ f (sPn ((nN ns s).ps[n]?)) r := by
  unfold yNb at h
  rw [if_neg (by omega), if_neg (by omega), if_neg (by omega), if_neg (by omega), if_neg (by omega), if_neg (by omega), if_pos k] at h
  exact h
theorem yNb_10 {f : Nat → List Nat → Prop} {ns : List SN} {s : Nat} {w : List Nat} (h : yNb f ns s w) (k : (nN ns s).kd = 10) : ∃ n : Nat, w = vB (n : Int) ∧ n < (nN ns s).ps.length := by
  unfold yNb at h
  rw [if_neg (by omega), if_neg (by omega), if_neg (by omega), if_neg (by omega), if_neg (by omega), if_pos k] at h
  exact h
theorem yNb_11 {f : Nat → List Nat → Prop} {ns : List SN} {s : Nat} {w : List Nat} (h : yNb f ns s w) (k : (nN ns s).kd = 11) : yNf f (nN ns s).ps w := by
  unfold yNb at h
  rw [if_neg (by omega), if_neg (by omega), if_neg (by omega), if_neg (by omega), if_neg (by omega), if_neg (by omega), if_neg (by omega), if_pos k] at h
  exact h
theorem yNb_67 {f : Nat → List Nat → Prop} {ns : List SN} {s : Nat} {w : List Nat} (h : yNb f ns s w) (k : (nN ns s).kd = 6 ∨ (nN ns s).kd = 7) : ∃ (c : Nat) (r : List Nat), w = yHd c r ∧ c ≤ 2000 ∧ yNi (f (sKid0 ns s)) (decide ((nN ns s).kd = 7)) c r := by
  unfold yNb at h
  rw [if_neg (by omega), if_neg (by omega), if_neg (by omega), if_neg (by omega), if_neg (by omega), if_neg (by omega), if_neg (by omega), if_neg (by omega)] at h
  exact h
theorem tFs_of {f : Nat → List Nat → Prop} : ∀ {ps : List SP} {w : List Nat}, yNf f ps w → ∃ L : List (List Nat), w = L.flatten ∧ tFs f ps L := by
  intro ps
  induction ps with
  | nil => intro w h; exact ⟨[], h, rfl⟩
  | cons q r ih =>
    intro w h
    obtain ⟨i, r1, rfl, h1, h2⟩ := h
    obtain ⟨L, e, hL⟩ := ih h2
    exact ⟨i :: L, by rw [List.flatten_cons, e], i, L, rfl, h1, hL⟩
theorem tFs.to {f : Nat → List Nat → Prop} : ∀ {ps : List SP} {L : List (List Nat)}, tFs f ps L → yNf f ps L.flatten := by
  intro ps
  induction ps with
  | nil => intro L h; have : L = [] := h; subst this; rfl
  | cons q r ih =>
    intro L h
    obtain ⟨i, L1, rfl, h1, h2⟩ := h
    exact ⟨i, L1.flatten, List.flatten_cons, h1, ih h2⟩
theorem tFs.len {f : Nat → List Nat → Prop} : ∀ {ps : List SP} {L : List (List Nat)}, tFs f ps L → L.length = ps.length := by
  intro ps
  induction ps with
  | nil => intro L h; have : L = [] := h; subst this; rfl
  | cons q r ih =>
    intro L h
    obtain ⟨i, L1, rfl, h1, h2⟩ := h
    rw [List.length_cons, List.length_cons, ih h2]
theorem tFs.at {f : Nat → List Nat → Prop} : ∀ {ps : List SP} {L : List (List Nat)}, tFs f ps L → ∀ {k : Nat} {q : SP}, ps[k]? = some q → ∃ b : List Nat, L[k]? = some b ∧ f (sPn (some q)) b := by
  intro ps
  induction ps with
  | nil => intro L h k q hq; exact nomatch hq
  | cons z r ih =>
    intro L h k q hq
    obtain ⟨i, L1, rfl, h1, h2⟩ := h
    cases k with
    | zero =>
      have : z = q := Option.some.inj hq
      subst this
      exact ⟨i, rfl, h1⟩
    | succ k => exact ih h2 hq
theorem tT_ex {A B : List SN} {dB : SP → Option (List Nat)} : ∀ (m w r : Nat) (bs : List Nat), yN A m w bs → ∃ o : tU, tT A B dB m w r bs o := by
  intro m
  induction m with
  | zero => intro w r bs h; exact h.elim
  | succ m ih =>
    intro w r bs h
    have hb : yNb (yN A m) A w bs := h
    have pl : ∀ r : Nat, ∃ o : tU, tPl A B dB (tT A B dB m) (yN A m) w r bs o := fun r => by
      unfold tPl
      by_cases k67 : (nN A w).kd = 6 ∨ (nN A w).kd = 7
      · simp only [if_pos k67]
        by_cases ke : (nN B r).kd = (nN A w).kd
        · simp only [if_pos ke]
          obtain ⟨c, rest, e, hc, hi⟩ := yNb_67 hb k67
          have key : ∀ (c : Nat) (rest : List Nat), yNi (yN A m (sKid0 A w)) (decide ((nN A w).kd = 7)) c rest → ∃ o : tU, tIt (tT A B dB m (sKid0 A w) (sKid0 B r)) (decide ((nN A w).kd = 7)) c rest o := by
            intro c
            induction c with
            | zero => intro rest h; exact ⟨([], false), h, rfl⟩
            | succ c ih2 =>
              intro rest h
              obtain ⟨k, i, r1, rfl, g1, g2, g3⟩ := h
              obtain ⟨o1, h1⟩ := ih (sKid0 A w) (sKid0 B r) i g2
              obtain ⟨o2, h2⟩ := ih2 r1 g3
              exact ⟨_, k, i, r1, o1, o2, rfl, g1, h1, h2, rfl⟩
          obtain ⟨o1, h1⟩ := key c rest hi
          exact ⟨_, c, rest, o1, e, hc, h1, rfl⟩
        · simp only [if_neg ke]
          exact ⟨_, rfl⟩
      · simp only [if_neg k67]
        by_cases kp : tPln A B w r = true
        · simp only [if_pos kp]
          by_cases k11 : (nN A w).kd = 11
          · simp only [if_pos k11]
            obtain ⟨L, e, hL⟩ := tFs_of (yNb_11 hb k11)
            have key : ∀ l : List SP, ∃ o : tU, tRf (tT A B dB m) dB (nN A w).ps L l o := by
              intro l
              induction l with
              | nil => exact ⟨_, rfl⟩
              | cons q l ih2 =>
                obtain ⟨o2, h2⟩ := ih2
                cases hq : sPrt (nN A w).ps q.nm with
                | none => exact ⟨_, _, o2, ⟨fun i hi => (by rw [hq] at hi; exact nomatch hi), fun _ => rfl⟩, h2, rfl⟩
                | some i =>
                  have hlt : i < (nN A w).ps.length := by have := sPrtL_lt _ _ _ _ hq; omega
                  obtain ⟨b, b1, b2⟩ := hL.at (List.getElem?_eq_getElem hlt)
                  obtain ⟨o1, h1⟩ := ih _ (sPn (some q)) b b2
                  refine ⟨_, o1, o2, ⟨fun j hj => ?_, fun hn => (by rw [hq] at hn; exact nomatch hn)⟩, h2, rfl⟩
                  rw [hq] at hj
                  cases hj
                  exact ⟨_, b, List.getElem?_eq_getElem hlt, b1, h1⟩
            obtain ⟨o, ho⟩ := key (nN B r).ps
            exact ⟨o, L, e, hL, ho⟩
          · simp only [if_neg k11]
            by_cases k10 : (nN A w).kd = 10
            · simp only [if_pos k10]
              obtain ⟨n, e, hn⟩ := yNb_10 hb k10
              exact ⟨_, n, _, e, List.getElem?_eq_getElem hn, rfl⟩
            · simp only [if_neg k10]
              exact ⟨_, rfl⟩
        · simp only [if_neg kp]
          exact ⟨_, rfl⟩
    show ∃ o : tU, yN A (m + 1) w bs ∧ tBd A B dB (tT A B dB m) (yN A m) w r bs o
    unfold tBd
    by_cases k8 : (nN A w).kd = 8
    · simp only [if_pos k8]
      obtain ⟨n, rest, e, hn, hr⟩ := yNb_8 hb k8
      obtain ⟨o, ho⟩ := ih _ r rest hr
      exact ⟨o, h, n, rest, e, hn, ho⟩
    · simp only [if_neg k8]
      by_cases r8 : (nN B r).kd = 8
      · simp only [if_pos r8]
        cases hf : tFst A B w r with
        | none => exact ⟨([], true), h, fun _ => rfl, fun k hk => nomatch hk⟩
        | some k =>
          obtain ⟨o1, h1⟩ := pl (sPn ((nN B r).ps[k]?))
          refine ⟨tSq (vB (k : Int), false) o1, h, fun hn => (nomatch hn), fun j hj => ?_⟩
          cases hj
          exact ⟨o1, h1, rfl⟩
      · simp only [if_neg r8]
        obtain ⟨o, ho⟩ := pl r
        exact ⟨o, h, ho⟩
theorem tT.n {A B : List SN} {dB : SP → Option (List Nat)} {m w r : Nat} {bs : List Nat} {o : tU} (h : tT A B dB m w r bs o) : yN A m w bs := by
  cases m with
  | zero => exact h.elim
  | succ m => exact h.1
