/-! ===== worlds with cells made one behind the other; constructors ===== -/
def rt_ap (w : rt_Wd) (n : Nat) (L : List va_E) : rt_Wd := (w.1 + L.length, w.2.1 + n, fun j => if j < w.1 then w.2.2 j else L[j - w.1]?)
/-- room in the heap -/
abbrev rt_ok (w : rt_Wd) : Prop := w.1 ≤ 600000 ∧ w.2.1 ≤ 7300000
abbrev rt_is (r0 : rt_Res) (w1 : rt_Wd) : rt_Res → rt_Wd → Prop := fun r w => r = r0 ∧ w = w1
theorem rt_up_s (w : rt_Wd) (i : Nat) (e : va_E) : (rt_up w i e).2.2 i = some e := if_pos rfl
theorem rt_up_n {w : rt_Wd} {i j : Nat} {e : va_E} (h : j ≠ i) : (rt_up w i e).2.2 j = w.2.2 j := if_neg h
theorem rt_up_up (w : rt_Wd) (i : Nat) (e e' : va_E) : rt_up (rt_up w i e) i e' = rt_up w i e' := by
  refine Prod.ext rfl (Prod.ext rfl (funext fun j => ?_))
  show (if j = i then some e' else if j = i then some e else w.2.2 j) = if j = i then some e' else w.2.2 j
  by_cases h : j = i <;> simp [h]
theorem rt_up_id {w : rt_Wd} {i : Nat} {e : va_E} (h : w.2.2 i = some e) : rt_up w i e = w := by
  refine Prod.ext rfl (Prod.ext rfl (funext fun j => ?_))
  show (if j = i then some e else w.2.2 j) = w.2.2 j
  by_cases hj : j = i
  · rw [if_pos hj, hj, h]
  · rw [if_neg hj]
theorem rt_up_comm {w : rt_Wd} {i j : Nat} {e f : va_E} (h : i ≠ j) : rt_up (rt_up w i e) j f = rt_up (rt_up w j f) i e := by
  refine Prod.ext rfl (Prod.ext rfl (funext fun k => ?_))
  show (if k = j then some f else if k = i then some e else w.2.2 k) = if k = i then some e else if k = j then some f else w.2.2 k
  by_cases h1 : k = j
  · rw [if_pos h1, if_neg (by omega), if_pos h1]
  · rw [if_neg h1, if_neg h1]
theorem rt_ap_lo {w : rt_Wd} {n : Nat} {L : List va_E} {j : Nat} (h : j < w.1) : (rt_ap w n L).2.2 j = w.2.2 j := if_pos h
theorem rt_ap_at (w : rt_Wd) (n : Nat) (L : List va_E) (k : Nat) : (rt_ap w n L).2.2 (w.1 + k) = L[k]? := by
  show (if w.1 + k < w.1 then _ else L[w.1 + k - w.1]?) = _
  rw [if_neg (by omega), Nat.add_sub_cancel_left]
theorem rt_ap_set {w : rt_Wd} {n : Nat} {L : List va_E} {k : Nat} (e : va_E) (h : k < L.length) : rt_up (rt_ap w n L) (w.1 + k) e = rt_ap w n (L.set k e) := by
  refine Prod.ext (by show _ = w.1 + _; rw [List.length_set]; rfl) (Prod.ext rfl (funext fun j => ?_))
  show (if j = w.1 + k then some e else if j < w.1 then w.2.2 j else L[j - w.1]?) = if j < w.1 then w.2.2 j else (L.set k e)[j - w.1]?
  by_cases h1 : j = w.1 + k
  · subst h1
    rw [if_pos rfl, if_neg (by omega), Nat.add_sub_cancel_left, List.getElem?_set_self h]
  · rw [if_neg h1]
    by_cases h2 : j < w.1
    · rw [if_pos h2, if_pos h2]
    · rw [if_neg h2, if_neg h2, List.getElem?_set_ne (by omega)]
theorem rt_ap_ap (w : rt_Wd) (n m : Nat) (L M : List va_E) : rt_ap (rt_ap w n L) m M = rt_ap w (n + m) (L ++ M) := by
  refine Prod.ext (by show w.1 + L.length + M.length = w.1 + (L ++ M).length; rw [List.length_append]; omega) (Prod.ext (Nat.add_assoc _ _ _) (funext fun j => ?_))
  show (if j < w.1 + L.length then (if j < w.1 then w.2.2 j else L[j - w.1]?) else M[j - (w.1 + L.length)]?) = if j < w.1 then w.2.2 j else (L ++ M)[j - w.1]?
  by_cases h2 : j < w.1
  · rw [if_pos (by omega), if_pos h2, if_pos h2]
  · rw [if_neg h2, if_neg h2]
    by_cases h1 : j < w.1 + L.length
    · rw [if_pos h1, List.getElem?_append_left (by omega)]
    · rw [if_neg h1, List.getElem?_append_right (by omega)]
      congr 1
      omega
theorem rt_ap_up {u : rt_Wd} {p : Nat} {o : va_E} {n : Nat} {L : List va_E} (h : p < u.1) (e : va_E) : rt_up (rt_ap (rt_up u p o) n L) p e = rt_ap (rt_up u p e) n L := by
  refine Prod.ext rfl (Prod.ext rfl (funext fun j => ?_))
  show (if j = p then some e else if j < u.1 then (if j = p then some o else u.2.2 j) else L[j - u.1]?) = if j < u.1 then (if j = p then some e else u.2.2 j) else L[j - u.1]?
  by_cases h1 : j = p
  · rw [if_pos h1, if_pos (by omega), if_pos h1]
  · rw [if_neg h1, if_neg h1, if_neg h1]
section RTw
variable {l : Launch} {s0 : State} {a0 : Array Value} {G : va_G} {ca : Nat → ClassId} {own nm : String} {cc : ByteArray} {nL : Nat} {ret : Option FieldType} {tab : List ExceptionTableEntry} {d : Nat} {w0 w : rt_Wd} {Q : rt_Res → rt_Wd → Prop} {pc : Nat} {lv lv' : List (Nat × Value)} {st : List Value}
theorem rt_P.sub {w' : rt_Wd} {H : Heap} (hP : rt_P s0 G w H) (h1 : w'.1 = w.1) (h3 : ∀ (i : Nat) (e : va_E), w'.2.2 i = some e → w.2.2 i = some e) : rt_P s0 G w' H := ⟨by rw [h1]; exact hP.1, hP.2.1, fun i e h => hP.2.2 i e (h3 i e h)⟩
theorem rt_sub {w' : rt_Wd} (h1 : w'.1 = w.1) (h2 : w'.2.1 = w.2.1) (h3 : ∀ (i : Nat) (e : va_E), w'.2.2 i = some e → w.2.2 i = some e) (k : rt_Go l s0 G own nm cc nL ret tab d w0 Q pc lv st w') : rt_Go l s0 G own nm cc nL ret tab d w0 Q pc lv st w := by
  intro p e s m args below meth c E H locs ls hP g1 g2 hS hl
  have K := k p e s m args below meth c E H locs ls (hP.sub h1 h3) (by rw [h1]; exact g1) (by rw [h2]; exact g2) hS hl
  rw [h1, h2] at K
  exact K
theorem rt_weq {w' : rt_Wd} (h : w = w') (k : rt_Go l s0 G own nm cc nL ret tab d w0 Q pc lv st w') : rt_Go l s0 G own nm cc nL ret tab d w0 Q pc lv st w := h ▸ k
theorem rt_ap_of {u : rt_Wd} {p : Nat} {o : va_E} (h : u.2.2 p = some o) (k : rt_Go l s0 G own nm cc nL ret tab d w0 Q pc lv st (rt_ap (rt_up u p o) 0 [])) : rt_Go l s0 G own nm cc nL ret tab d w0 Q pc lv st u := by
  refine rt_sub (w' := rt_ap (rt_up u p o) 0 []) rfl rfl (fun i e hi => ?_) k
  have hi' : (if i < u.1 then (if i = p then some o else u.2.2 i) else ([] : List va_E)[i - u.1]?) = some e := hi
  by_cases h1 : i < u.1
  · rw [if_pos h1] at hi'
    by_cases h2 : i = p
    · rw [if_pos h2] at hi'; rw [h2, h]; exact hi'
    · rw [if_neg h2] at hi'; exact hi'
  · rw [if_neg h1] at hi'; simp at hi'
theorem rt_nw_ap (v : rt_Wd) (n N : Nat) (L : List va_E) (e : va_E) : rt_nw (rt_ap v n L) N e = rt_ap v (n + N) (L ++ [e]) := by
  refine Prod.ext (by show v.1 + L.length + 1 = v.1 + (L ++ [e]).length; rw [List.length_append]; rfl) (Prod.ext (Nat.add_assoc _ _ _) (funext fun j => ?_))
  show (if j = v.1 + L.length then some e else if j < v.1 then v.2.2 j else L[j - v.1]?) = if j < v.1 then v.2.2 j else (L ++ [e])[j - v.1]?
  by_cases h2 : j < v.1
  · rw [if_neg (by omega), if_pos h2, if_pos h2]
  · rw [if_neg h2, if_neg h2]
    by_cases h1 : j = v.1 + L.length
    · rw [if_pos h1, List.getElem?_append_right (by omega), h1]
      rw [show v.1 + L.length - v.1 - L.length = 0 by omega]
      rfl
    · rw [if_neg h1]
      by_cases h3 : j < v.1 + L.length
      · rw [List.getElem?_append_left (by omega)]
      · rw [List.getElem?_append_right (by omega), List.getElem?_eq_none (by omega), List.getElem?_eq_none (by simp; omega)]
theorem rt_aNew (Γ : rt_Γ l s0 a0 G ca) {v : rt_Wd} {n n' : Nat} {L L' : List va_E} {index ci N m b : Nat} {fs : List Value} (F : rt_Fn own index ci N fs) (hd : decode cc pc = .ok (.new index, 3)) (hb : v.1 = b) (hm : L.length = m) (hr : b + m + 1 ≤ 600000 ∧ v.2.1 + n + N ≤ 7300000) (hL : L ++ [.inr (ci, fs)] = L') (hn : n + N = n') (kk : rt_Go l s0 G own nm cc nL ret tab d w0 Q (pc + 3) lv (rt_r s0 (b + m) :: st) (rt_ap v n' L')) : rt_Go l s0 G own nm cc nL ret tab d w0 Q pc lv st (rt_ap v n L) := by
  subst hm; subst hL; subst hn; subst hb
  exact rt_new Γ F hd hr (rt_weq (rt_nw_ap v n N L _) kk)
theorem rt_anewaI (Γ : rt_Γ l s0 a0 G ca) {v : rt_Wd} {n n' : Nat} {L L' : List va_E} {x : Int32} {N m b : Nat} (hd : decode cc pc = .ok (.newarray .int, 2)) (hw : Cond.arrayClass .int ∈ lw_tbl) (hn0 : ¬ x < 0) (hN : x.toNatClampNeg = N) (hb9 : N ≤ 60000) (hb : v.1 = b) (hm : L.length = m) (hr : b + m + 1 ≤ 600000 ∧ v.2.1 + n + N ≤ 7300000) (hL : L ++ [.inl (ca 0, N, .inl (fun _ => 0))] = L') (hn : n + N = n') (kk : rt_Go l s0 G own nm cc nL ret tab d w0 Q (pc + 2) lv (rt_r s0 (b + m) :: st) (rt_ap v n' L')) : rt_Go l s0 G own nm cc nL ret tab d w0 Q pc lv (.int x :: st) (rt_ap v n L) := by
  subst hm; subst hL; subst hn; subst hb
  exact rt_newaI Γ hd hw hn0 hN hb9 hr (rt_weq (rt_nw_ap v n N L _) kk)
theorem rt_anewaB (Γ : rt_Γ l s0 a0 G ca) {v : rt_Wd} {n n' : Nat} {L L' : List va_E} {x : Int32} {N m b : Nat} (hd : decode cc pc = .ok (.newarray .byte, 2)) (hw : Cond.arrayClass .byte ∈ lw_tbl) (hn0 : ¬ x < 0) (hN : x.toNatClampNeg = N) (hb9 : N ≤ 60000) (hb : v.1 = b) (hm : L.length = m) (hr : b + m + 1 ≤ 600000 ∧ v.2.1 + n + N ≤ 7300000) (hL : L ++ [.inl (ca 1, N, .inl (fun _ => 0))] = L') (hn : n + N = n') (kk : rt_Go l s0 G own nm cc nL ret tab d w0 Q (pc + 2) lv (rt_r s0 (b + m) :: st) (rt_ap v n' L')) : rt_Go l s0 G own nm cc nL ret tab d w0 Q pc lv (.int x :: st) (rt_ap v n L) := by
  subst hm; subst hL; subst hn; subst hb
  exact rt_newaB Γ hd hw hn0 hN hb9 hr (rt_weq (rt_nw_ap v n N L _) kk)
theorem rt_anewaL (Γ : rt_Γ l s0 a0 G ca) {v : rt_Wd} {n n' : Nat} {L L' : List va_E} {x : Int32} {N m b : Nat} (hd : decode cc pc = .ok (.newarray .long, 2)) (hw : Cond.arrayClass .long ∈ lw_tbl) (hn0 : ¬ x < 0) (hN : x.toNatClampNeg = N) (hb9 : N ≤ 60000) (hb : v.1 = b) (hm : L.length = m) (hr : b + m + 1 ≤ 600000 ∧ v.2.1 + n + N ≤ 7300000) (hL : L ++ [.inl (ca 2, N, .inr (.inl (fun _ => 0)))] = L') (hn : n + N = n') (kk : rt_Go l s0 G own nm cc nL ret tab d w0 Q (pc + 2) lv (rt_r s0 (b + m) :: st) (rt_ap v n' L')) : rt_Go l s0 G own nm cc nL ret tab d w0 Q pc lv (.int x :: st) (rt_ap v n L) := by
  subst hm; subst hL; subst hn; subst hb
  exact rt_newaL Γ hd hw hn0 hN hb9 hr (rt_weq (rt_nw_ap v n N L _) kk)
theorem rt_anewaZ (Γ : rt_Γ l s0 a0 G ca) {v : rt_Wd} {n n' : Nat} {L L' : List va_E} {x : Int32} {N m b : Nat} (hd : decode cc pc = .ok (.newarray .boolean, 2)) (hw : Cond.arrayClass .boolean ∈ lw_tbl) (hn0 : ¬ x < 0) (hN : x.toNatClampNeg = N) (hb9 : N ≤ 60000) (hb : v.1 = b) (hm : L.length = m) (hr : b + m + 1 ≤ 600000 ∧ v.2.1 + n + N ≤ 7300000) (hL : L ++ [.inl (ca 3, N, .inl (fun _ => 0))] = L') (hn : n + N = n') (kk : rt_Go l s0 G own nm cc nL ret tab d w0 Q (pc + 2) lv (rt_r s0 (b + m) :: st) (rt_ap v n' L')) : rt_Go l s0 G own nm cc nL ret tab d w0 Q pc lv (.int x :: st) (rt_ap v n L) := by
  subst hm; subst hL; subst hn; subst hb
  exact rt_newaZ Γ hd hw hn0 hN hb9 hr (rt_weq (rt_nw_ap v n N L _) kk)
theorem rt_newaQ (Γ : rt_Γ l s0 a0 G ca) {x : Int32} {N index : Nat} (hd : decode cc pc = .ok (.anewarray index, 3)) (q9 : Cond.classLink own index RX6 ∈ lw_tbl) (q8 : Cond.arrayOver (.object RX6) ∈ lw_tbl) (hn : ¬ x < 0) (hN : x.toNatClampNeg = N) (hb9 : N ≤ 60000) (hr : w.1 + 1 ≤ 600000 ∧ w.2.1 + N ≤ 7300000) (kk : rt_Go l s0 G own nm cc nL ret tab d w0 Q (pc + 3) lv (rt_r s0 w.1 :: st) (rt_nw w N (.inl (ca 4, N, .inr (.inr (.inr (.inr (fun _ => none)))))))) : rt_Go l s0 G own nm cc nL ret tab d w0 Q pc lv (.int x :: st) w := by
  intro p e s m args below meth c E H locs ls hP h1 h2 hS hl
  have hs := E.2.2.2.2.2.2.2.2.1
  subst hN
  have hcA9 : s.vm.findClass ("[" ++ (FieldType.object RX6).toString) = some (ca 4) := by
    obtain ⟨k9, c9, i1, i2, i3, i4⟩ := ((rt_K Γ hs).2 4 _ rfl).2
    exact i4
  have hover : va_AO RX6 s := va_AO.moved hs.alike (va_AO.of (Γ.2.1 _ q8))
  refine W.anew E.1 E.2.1 E.2.2.2.2.2.2.2.1 (rt_word Γ q9 rfl hs args) (va_AO.use hover) rfl hd rfl hn (by omega) (by show w.1 - w0.1 + 1 ≤ 600000 - w0.1; omega) (by show w.2.1 - w0.2.1 + _ ≤ 7300000 - w0.2.1; omega) fun cA kA comp f1 f2 f3 f4 => ?_
  cases Option.some.inj (f1.symm.trans hcA9)
  generalize hH1 : H.push ({ cls := ca 4, slots := Array.replicate x.toNatClampNeg .null, vm := .none } : Cell) = H1
  have z1 : H1.size = H.size + 1 := by rw [← hH1, Array.size_push]
  have e1 : H1[H.size]? = some (arrV (ca 4) x.toNatClampNeg (fun _ => .null)) := by rw [← hH1, Array.getElem?_push_size, ← arrV_new]
  have o1 : ∀ q : Nat, q < H.size → H1[q]? = H[q]? := fun q hq => by rw [← hH1, Array.getElem?_push, if_neg (Nat.ne_of_lt hq)]
  have hP1 : rt_P s0 G (rt_nw w x.toNatClampNeg (.inl (ca 4, x.toNatClampNeg, .inr (.inr (.inr (.inr (fun _ => none))))))) H1 := rt_P.nw hP (by show H1[_]? = some (vp_cell _ _); rw [vp_cell_q, ← hP.1]; exact e1) z1 o1
  have hS1 : va_S (fun q => s0.heap.size ≤ q) s.heap H1 locs := ⟨Nat.le_trans hS.1 (by rw [z1]; omega), fun q q1 q2 => (o1 q (Nat.lt_of_lt_of_le q1 hS.1)).trans (hS.2.1 q q1 q2), hS.2.2⟩
  have K := kk p e s m args below meth c E H1 locs ls hP1 (Nat.le_succ_of_le h1) (Nat.le_trans h2 (Nat.le_add_right _ _)) hS1 hl
  rw [show (rt_nw w x.toNatClampNeg (.inl (ca 4, x.toNatClampNeg, .inr (.inr (.inr (.inr (fun _ => none))))))).1 - w0.1 = w.1 - w0.1 + 1 from Nat.sub_add_comm h1, show (rt_nw w x.toNatClampNeg (.inl (ca 4, x.toNatClampNeg, .inr (.inr (.inr (.inr (fun _ => none))))))).2.1 - w0.2.1 = w.2.1 - w0.2.1 + x.toNatClampNeg from Nat.sub_add_comm h2] at K
  rw [hP.1]
  exact K
theorem rt_anewaQ (Γ : rt_Γ l s0 a0 G ca) {v : rt_Wd} {n n' : Nat} {L L' : List va_E} {x : Int32} {N m b index : Nat} (hd : decode cc pc = .ok (.anewarray index, 3)) (q9 : Cond.classLink own index RX6 ∈ lw_tbl) (q8 : Cond.arrayOver (.object RX6) ∈ lw_tbl) (hn0 : ¬ x < 0) (hN : x.toNatClampNeg = N) (hb9 : N ≤ 60000) (hb : v.1 = b) (hm : L.length = m) (hr : b + m + 1 ≤ 600000 ∧ v.2.1 + n + N ≤ 7300000) (hL : L ++ [.inl (ca 4, N, .inr (.inr (.inr (.inr (fun _ => none)))))] = L') (hn : n + N = n') (kk : rt_Go l s0 G own nm cc nL ret tab d w0 Q (pc + 3) lv (rt_r s0 (b + m) :: st) (rt_ap v n' L')) : rt_Go l s0 G own nm cc nL ret tab d w0 Q pc lv (.int x :: st) (rt_ap v n L) := by
  subst hm; subst hL; subst hn; subst hb
  exact rt_newaQ Γ hd q9 q8 hn0 hN hb9 hr (rt_weq (rt_nw_ap v n N L _) kk)
/-- in a constructor: a field of the object p itself -/
theorem rt_cPut (Γ : rt_Γ l s0 a0 G ca) {u : rt_Wd} {p n : Nat} {L : List va_E} {index ci k : Nat} {ty : FieldType} (F : rt_Fp own nm index ci k ty) (hd : decode cc pc = .ok (.putfield index, 3)) (hp : p < u.1) {fs fs' : List Value} {v : Value} (hl9 : k < fs.length) (hn : narrow ty v = v) (hf : fits ty v = true) (hfs : fs.set k v = fs') (kk : rt_Go l s0 G own nm cc nL ret tab d w0 Q (pc + 3) lv st (rt_ap (rt_up u p (.inr (ci, fs'))) n L)) : rt_Go l s0 G own nm cc nL ret tab d w0 Q pc lv (v :: rt_r s0 p :: st) (rt_ap (rt_up u p (.inr (ci, fs))) n L) :=
  rt_put Γ F hd ((rt_ap_lo (w := rt_up u p (.inr (ci, fs))) hp).trans (rt_up_s _ _ _)) hl9 hn hf hfs (rt_weq (rt_ap_up hp _) kk)
theorem rt_cGet (Γ : rt_Γ l s0 a0 G ca) {u : rt_Wd} {p n : Nat} {L : List va_E} {index ci k : Nat} (F : rt_Fd own index ci k) (hd : decode cc pc = .ok (.getfield index, 3)) (hp : p < u.1) {fs : List Value} {v : Value} (hv : fs[k]? = some v) (kk : rt_Go l s0 G own nm cc nL ret tab d w0 Q (pc + 3) lv (v :: st) (rt_ap (rt_up u p (.inr (ci, fs))) n L)) : rt_Go l s0 G own nm cc nL ret tab d w0 Q pc lv (rt_r s0 p :: st) (rt_ap (rt_up u p (.inr (ci, fs))) n L) :=
  rt_get Γ F hd ((rt_ap_lo (w := rt_up u p (.inr (ci, fs))) hp).trans (rt_up_s _ _ _)) hv kk
/-- the constructor of a new object is called: its contract -/
theorem rt_aCallI (Γ : rt_Γ l s0 a0 G ca) {v : rt_Wd} {n n' : Nat} {L L' : List va_E} {y : MethodName} {kc : Cond} {ccY : ByteArray} {nLY : Nat} {tabY : List ExceptionTableEntry} (K : rt_Kc y kc ccY nLY none tabY) (hk0 : kc = .code y ccY nLY none) {index : Nat} (C9 : rt_Ci own index y) (hd : decode cc pc = .ok (.invokespecial index, 3)) {d1 m b n2 : Nat} {As : List Value} {o : va_E} {M : List va_E}
    (hb : v.1 = b) (hm : m < L.length) (hM : rt_Met l s0 G kc y d1 (rt_r s0 (b + m) :: As) (rt_ap v n L) (rt_is (.inl none) (rt_ap (rt_up (rt_ap v n L) (b + m) o) n2 M))) (hd1 : d1 + 1 ≤ d) (hnL : nLY ≤ 18) (hlen : (parseMethodDescriptor y.desc).map (fun q => q.parameters.length) = some As.length) (hr : b + L.length ≤ 600000 ∧ v.2.1 + n ≤ 7300000) (hW : (st.map fun v => v.category).sum ≤ 12) {stk : List Value} (hstk : stk = As.reverse ++ rt_r s0 (b + m) :: st)
    (hL : L.set m o ++ M = L') (hn : n + n2 = n') (kk : rt_Go l s0 G own nm cc nL ret tab d w0 Q (pc + 3) lv st (rt_ap v n' L')) : rt_Go l s0 G own nm cc nL ret tab d w0 Q pc lv stk (rt_ap v n L) := by
  subst hL; subst hn; subst hb
  refine rt_callI Γ K C9 hM hd1 hnL hlen hr hW hk0 hd rfl hstk (fun r w1 h => ?_) (fun X w1 h => nomatch h.1)
  obtain ⟨h1, rfl⟩ := h
  cases h1
  exact rt_weq (by rw [rt_ap_set _ hm, rt_ap_ap]) kk
/-- the constructor of a new object is called: its contract -/
theorem rt_aCallIN (Γ : rt_Γ l s0 a0 G ca) {v : rt_Wd} {n n' : Nat} {L L' : List va_E} {y : MethodName} {kc : Cond} {ccY : ByteArray} {nLY : Nat} {tabY : List ExceptionTableEntry} (K : rt_Kc y kc ccY nLY none tabY) (hk0 : kc = .code y ccY nLY none) {index : Nat} (C9 : rt_CiN own index y) (hd : decode cc pc = .ok (.invokespecial index, 3)) {d1 m b n2 : Nat} {As : List Value} {o : va_E} {M : List va_E}
    (hb : v.1 = b) (hm : m < L.length) (hM : rt_Met l s0 G kc y d1 (rt_r s0 (b + m) :: As) (rt_ap v n L) (rt_is (.inl none) (rt_ap (rt_up (rt_ap v n L) (b + m) o) n2 M))) (hd1 : d1 + 1 ≤ d) (hnL : nLY ≤ 18) (hlen : (parseMethodDescriptor y.desc).map (fun q => q.parameters.length) = some As.length) (hr : b + L.length ≤ 600000 ∧ v.2.1 + n ≤ 7300000) (hW : (st.map fun v => v.category).sum ≤ 12) {stk : List Value} (hstk : stk = As.reverse ++ rt_r s0 (b + m) :: st)
    (hL : L.set m o ++ M = L') (hn : n + n2 = n') (kk : rt_Go l s0 G own nm cc nL ret tab d w0 Q (pc + 3) lv st (rt_ap v n' L')) : rt_Go l s0 G own nm cc nL ret tab d w0 Q pc lv stk (rt_ap v n L) := by
  subst hL; subst hn; subst hb
  refine rt_callIN Γ K C9 hM hd1 hnL hlen hr hW hk0 hd rfl hstk (fun r w1 h => ?_) (fun X w1 h => nomatch h.1)
  obtain ⟨h1, rfl⟩ := h
  cases h1
  exact rt_weq (by rw [rt_ap_set _ hm, rt_ap_ap]) kk
/-- what a call gives back is known -/
theorem rt_kr {v : Option Value} {w1 : rt_Wd} {st2 : List Value} (hv : v.toList ++ st = st2) (k : rt_Go l s0 G own nm cc nL ret tab d w0 Q (pc + 3) lv st2 w1) : ∀ (v' : Option Value) (w' : rt_Wd), rt_is (.inl v) w1 (.inl v') w' → rt_Go l s0 G own nm cc nL ret tab d w0 Q (pc + 3) lv (v'.toList ++ st) w' := by
  rintro v' w' ⟨h1, rfl⟩
  cases h1
  rw [hv]
  exact k
theorem rt_kx {v : Option Value} {w1 : rt_Wd} : ∀ (X : String) (w' : rt_Wd), rt_is (.inl v) w1 (.inr X) w' → rt_Tx l s0 G own nm cc nL ret tab d w0 Q pc lv X w' := fun X w' h => nomatch h.1
theorem rt_aIast (Γ : rt_Γ l s0 a0 G ca) {v : rt_Wd} {n m b N : Nat} {L L' : List va_E} {f : Nat → Int32} {j x : Int32} (hd : decode cc pc = .ok (.iastore, 1)) (hb : v.1 = b) (hm : L[m]? = some (.inl (ca 0, N, .inl f))) (hin : vp_in j N) (hL : L.set m (.inl (ca 0, N, .inl (upd f j.toNatClampNeg x))) = L') (kk : rt_Go l s0 G own nm cc nL ret tab d w0 Q (pc + 1) lv st (rt_ap v n L')) : rt_Go l s0 G own nm cc nL ret tab d w0 Q pc lv (.int x :: .int j :: rt_r s0 (b + m) :: st) (rt_ap v n L) := by
  subst hL; subst hb
  exact rt_iast Γ hd ((rt_ap_at v n L m).trans hm) hin (rt_weq (rt_ap_set _ (List.getElem?_eq_some_iff.mp hm).1) kk)
end RTw
