/-! ===== worlds with a block of cells: an object and what is its own, one behind the other ===== -/
def rt_bk (w : rt_Wd) (t : Nat) (L : List va_E) : rt_Wd := (w.1, w.2.1, fun j => if t ≤ j ∧ j < t + L.length then L[j - t]? else w.2.2 j)
theorem rt_bk_at (w : rt_Wd) (t : Nat) (L : List va_E) (k : Nat) (h : k < L.length) : (rt_bk w t L).2.2 (t + k) = L[k]? := by
  show (if t ≤ t + k ∧ t + k < t + L.length then L[t + k - t]? else _) = _
  rw [if_pos ⟨by omega, by omega⟩, Nat.add_sub_cancel_left]
theorem rt_bk_0 (w : rt_Wd) (t : Nat) (L : List va_E) (h : 0 < L.length) : (rt_bk w t L).2.2 t = L[0]? := rt_bk_at w t L 0 h
theorem rt_bk_n {w : rt_Wd} {t : Nat} {L : List va_E} {q : Nat} (h : q < t ∨ t + L.length ≤ q) : (rt_bk w t L).2.2 q = w.2.2 q := by
  show (if t ≤ q ∧ q < t + L.length then L[q - t]? else _) = _
  rw [if_neg (by omega)]
theorem rt_bk_up {w : rt_Wd} {t : Nat} {L : List va_E} (k : Nat) (h : k < L.length) (e : va_E) : rt_up (rt_bk w t L) (t + k) e = rt_bk w t (L.set k e) := by
  refine Prod.ext rfl (Prod.ext rfl (funext fun j => ?_))
  show (if j = t + k then some e else if t ≤ j ∧ j < t + L.length then L[j - t]? else w.2.2 j) = if t ≤ j ∧ j < t + (L.set k e).length then (L.set k e)[j - t]? else w.2.2 j
  rw [List.length_set]
  by_cases h1 : j = t + k
  · subst h1
    rw [if_pos rfl, if_pos ⟨by omega, by omega⟩, Nat.add_sub_cancel_left, List.getElem?_set_self h]
  · rw [if_neg h1]
    by_cases h2 : t ≤ j ∧ j < t + L.length
    · rw [if_pos h2, if_pos h2, List.getElem?_set_ne (by omega)]
    · rw [if_neg h2, if_neg h2]
theorem rt_bk_up0 {w : rt_Wd} {t : Nat} {L : List va_E} (h : 0 < L.length) (e : va_E) : rt_up (rt_bk w t L) t e = rt_bk w t (L.set 0 e) := rt_bk_up 0 h e
theorem rt_bk_cs {s0 : State} {ca : Nat → ClassId} {w : rt_Wd} {t : Nat} {L : List va_E} {n : Nat} {f : Nat → Int32} {u : Int32} (k : Nat) (h : k + 1 < L.length) : rt_cs s0 ca (rt_bk w t L) (t + k) n f u = rt_bk w t ((L.set (k + 1) (.inl (ca 0, n, .inl f))).set k (.inr (0, [rt_r s0 (t + k + 1), .int u]))) := by
  unfold rt_cs
  rw [show t + k + 1 = t + (k + 1) from rfl, rt_bk_up (k + 1) h, rt_bk_up k (by rw [List.length_set]; omega)]
theorem rt_bk_C {s0 : State} {ca : Nat → ClassId} {w : rt_Wd} {t : Nat} {L : List va_E} {n : Nat} {f : Nat → Int32} {u : Int32} (k : Nat) (h : k + 1 < L.length) (h1 : L[k]? = some (.inr (0, [rt_r s0 (t + k + 1), .int u]))) (h2 : L[k + 1]? = some (.inl (ca 0, n, .inl f))) : rt_C s0 ca (rt_bk w t L) (t + k) n f u :=
  ⟨(rt_bk_at w t L k (by omega)).trans h1, (rt_bk_at w t L (k + 1) h).trans h2⟩
theorem rt_bk_of {w : rt_Wd} {t : Nat} {L : List va_E} (h : ∀ k : Nat, k < L.length → w.2.2 (t + k) = L[k]?) : rt_bk w t L = w := by
  refine Prod.ext rfl (Prod.ext rfl (funext fun j => ?_))
  show (if t ≤ j ∧ j < t + L.length then L[j - t]? else w.2.2 j) = w.2.2 j
  by_cases h2 : t ≤ j ∧ j < t + L.length
  · rw [if_pos h2, ← h (j - t) (by omega), show t + (j - t) = j by omega]
  · rw [if_neg h2]
theorem rt_bk_bk {w : rt_Wd} {t : Nat} {L M : List va_E} (h : L.length = M.length) : rt_bk (rt_bk w t L) t M = rt_bk w t M := by
  refine Prod.ext rfl (Prod.ext rfl (funext fun j => ?_))
  show (if t ≤ j ∧ j < t + M.length then M[j - t]? else if t ≤ j ∧ j < t + L.length then L[j - t]? else w.2.2 j) = if t ≤ j ∧ j < t + M.length then M[j - t]? else w.2.2 j
  by_cases h2 : t ≤ j ∧ j < t + M.length
  · rw [if_pos h2, if_pos h2]
  · rw [if_neg h2, if_neg h2, h, if_neg h2]
/-- a cell outside of the block -/
theorem rt_bk_upO {w : rt_Wd} {t : Nat} {L : List va_E} {q : Nat} (h : q < t ∨ t + L.length ≤ q) (e : va_E) : rt_up (rt_bk w t L) q e = rt_bk (rt_up w q e) t L := by
  refine Prod.ext rfl (Prod.ext rfl (funext fun j => ?_))
  show (if j = q then some e else if t ≤ j ∧ j < t + L.length then L[j - t]? else w.2.2 j) = if t ≤ j ∧ j < t + L.length then L[j - t]? else if j = q then some e else w.2.2 j
  by_cases h1 : j = q
  · rw [if_pos h1, if_neg (by omega), if_pos h1]
  · rw [if_neg h1]
    by_cases h2 : t ≤ j ∧ j < t + L.length
    · rw [if_pos h2, if_pos h2]
    · rw [if_neg h2, if_neg h2, if_neg h1]
theorem rt_C.of {s0 : State} {ca : Nat → ClassId} {w w' : rt_Wd} {p n : Nat} {f : Nat → Int32} {u : Int32} (h : rt_C s0 ca w p n f u) (h1 : w'.2.2 p = w.2.2 p) (h2 : w'.2.2 (p + 1) = w.2.2 (p + 1)) : rt_C s0 ca w' p n f u := ⟨h1.trans h.1, h2.trans h.2⟩
theorem rt_C.bk {s0 : State} {ca : Nat → ClassId} {w : rt_Wd} {p n : Nat} {f : Nat → Int32} {u : Int32} {t : Nat} {L : List va_E} (h : rt_C s0 ca w p n f u) (h1 : p + 1 < t ∨ t + L.length ≤ p) : rt_C s0 ca (rt_bk w t L) p n f u := h.of (rt_bk_n (by omega)) (rt_bk_n (by omega))
section RTb
variable {l : Launch} {s0 : State} {a0 : Array Value} {G : va_G} {ca : Nat → ClassId} {own nm : String} {cc : ByteArray} {nL : Nat} {ret : Option FieldType} {tab : List ExceptionTableEntry} {d : Nat} {w0 w : rt_Wd} {Q : rt_Res → rt_Wd → Prop} {pc : Nat} {lv lv' : List (Nat × Value)} {st : List Value}
/-- fields of the block's object -/
theorem rt_bGet (Γ : rt_Γ l s0 a0 G ca) {t : Nat} {L : List va_E} {index ci k : Nat} (F : rt_Fd own index ci k) (hd : decode cc pc = .ok (.getfield index, 3)) {fs : List Value} {v : Value} (hL : L[0]? = some (.inr (ci, fs))) (hv : fs[k]? = some v) (kk : rt_Go l s0 G own nm cc nL ret tab d w0 Q (pc + 3) lv (v :: st) (rt_bk w t L)) : rt_Go l s0 G own nm cc nL ret tab d w0 Q pc lv (rt_r s0 t :: st) (rt_bk w t L) :=
  rt_get Γ F hd ((rt_bk_0 w t L (List.getElem?_eq_some_iff.mp hL).1).trans hL) hv kk
theorem rt_bPut (Γ : rt_Γ l s0 a0 G ca) {t : Nat} {L L' : List va_E} {index ci k : Nat} {ty : FieldType} (F : rt_Fp own nm index ci k ty) (hd : decode cc pc = .ok (.putfield index, 3)) {fs : List Value} {v : Value} (hL : L[0]? = some (.inr (ci, fs))) (hl9 : k < fs.length) (hn : narrow ty v = v) (hf : fits ty v = true) (hL' : L.set 0 (.inr (ci, fs.set k v)) = L') (kk : rt_Go l s0 G own nm cc nL ret tab d w0 Q (pc + 3) lv st (rt_bk w t L')) : rt_Go l s0 G own nm cc nL ret tab d w0 Q pc lv (v :: rt_r s0 t :: st) (rt_bk w t L) := by
  subst hL'
  exact rt_put Γ F hd ((rt_bk_0 w t L (List.getElem?_eq_some_iff.mp hL).1).trans hL) hl9 hn hf rfl (rt_weq (rt_bk_up0 (List.getElem?_eq_some_iff.mp hL).1 _) kk)
theorem rt_bIast (Γ : rt_Γ l s0 a0 G ca) {t m N : Nat} {L L' : List va_E} {f : Nat → Int32} {j x : Int32} (hd : decode cc pc = .ok (.iastore, 1)) (hm : L[m]? = some (.inl (ca 0, N, .inl f))) (hin : vp_in j N) (hL : L.set m (.inl (ca 0, N, .inl (upd f j.toNatClampNeg x))) = L') (kk : rt_Go l s0 G own nm cc nL ret tab d w0 Q (pc + 1) lv st (rt_bk w t L')) : rt_Go l s0 G own nm cc nL ret tab d w0 Q pc lv (.int x :: .int j :: rt_r s0 (t + m) :: st) (rt_bk w t L) := by
  subst hL
  exact rt_iast Γ hd ((rt_bk_at w t L m (List.getElem?_eq_some_iff.mp hm).1).trans hm) hin (rt_weq (rt_bk_up m (List.getElem?_eq_some_iff.mp hm).1 _) kk)
theorem rt_bLast (Γ : rt_Γ l s0 a0 G ca) {t m N : Nat} {L L' : List va_E} {f : Nat → Int64} {j : Int32} {x : Int64} (hd : decode cc pc = .ok (.lastore, 1)) (hm : L[m]? = some (.inl (ca 2, N, .inr (.inl f)))) (hin : vp_in j N) (hL : L.set m (.inl (ca 2, N, .inr (.inl (vp_updL f j.toNatClampNeg x)))) = L') (kk : rt_Go l s0 G own nm cc nL ret tab d w0 Q (pc + 1) lv st (rt_bk w t L')) : rt_Go l s0 G own nm cc nL ret tab d w0 Q pc lv (.long x :: .int j :: rt_r s0 (t + m) :: st) (rt_bk w t L) := by
  subst hL
  exact rt_last Γ hd ((rt_bk_at w t L m (List.getElem?_eq_some_iff.mp hm).1).trans hm) hin (rt_weq (rt_bk_up m (List.getElem?_eq_some_iff.mp hm).1 _) kk)
end RTb
