/-! ===== worlds: one cell changed, one cell made; rows on fields, arrays, new cells ===== -/
def rt_up (w : rt_Wd) (i : Nat) (e : va_E) : rt_Wd := (w.1, w.2.1, fun j => if j = i then some e else w.2.2 j)
def rt_nw (w : rt_Wd) (n : Nat) (e : va_E) : rt_Wd := (w.1 + 1, w.2.1 + n, fun j => if j = w.1 then some e else w.2.2 j)
theorem rt_P.up {s0 : State} {G : va_G} {w : rt_Wd} {H H1 : Heap} {i : Nat} {e0 e : va_E} (hP : rt_P s0 G w H) (he : va_at G vwCl (s0.heap.size + i, e) H1) (z : H1.size = H.size) (oq : ∀ q : Nat, q ≠ s0.heap.size + i → H1[q]? = H[q]?) : rt_P s0 G (rt_up w i e) H1 := by
  refine ⟨z.trans hP.1, fun q hq => (oq q (by omega)).trans (hP.2.1 q hq), fun j x hj => ?_⟩
  by_cases hji : j = i
  · subst hji
    simp only [rt_up, if_pos] at hj
    cases hj
    exact he
  · simp only [rt_up, if_neg hji] at hj
    exact (hP.2.2 j x hj).kept (oq _ (by show s0.heap.size + j ≠ _; omega))
theorem rt_P.nw {s0 : State} {G : va_G} {w : rt_Wd} {H H1 : Heap} {n : Nat} {e : va_E} (hP : rt_P s0 G w H) (he : va_at G vwCl (s0.heap.size + w.1, e) H1) (z : H1.size = H.size + 1) (oq : ∀ q : Nat, q < H.size → H1[q]? = H[q]?) : rt_P s0 G (rt_nw w n e) H1 := by
  have h0 := hP.1
  refine ⟨by rw [z, h0]; rfl, fun q hq => (oq q (by omega)).trans (hP.2.1 q hq), fun j x hj => ?_⟩
  by_cases hji : j = w.1
  · subst hji
    simp only [rt_nw, if_pos] at hj
    cases hj
    exact he
  · simp only [rt_nw, if_neg hji] at hj
    have h9 := hP.2.2 j x hj
    exact h9.kept (oq _ h9.lt)
theorem rt_P.one {s0 : State} {G : va_G} {w : rt_Wd} {H : Heap} {i : Nat} {e : va_E} (hP : rt_P s0 G w H) (h : w.2.2 i = some e) : va_P G vwCl [(s0.heap.size + i, e)] H := by
  intro k q hk
  match k, hk with
  | 0, hk => cases hk; exact hP.2.2 i e h
  | k + 1, hk => simp at hk
theorem rt_P.in_ {s0 : State} {G : va_G} {w : rt_Wd} {H : Heap} {i : Nat} {e : va_E} (hP : rt_P s0 G w H) (h : w.2.2 i = some e) : i < w.1 := by
  have h1 := (hP.2.2 i e h).lt
  have h2 := hP.1
  have h3 : s0.heap.size + i < H.size := h1
  omega
section RTheap
variable {l : Launch} {s0 : State} {a0 : Array Value} {G : va_G} {ca : Nat → ClassId} {own nm : String} {cc : ByteArray} {nL : Nat} {ret : Option FieldType} {tab : List ExceptionTableEntry} {d : Nat} {w0 w : rt_Wd} {Q : rt_Res → rt_Wd → Prop} {pc : Nat} {lv lv' : List (Nat × Value)} {st : List Value}
theorem rt_K (Γ : rt_Γ l s0 a0 G ca) {s : State} (hs : s0.WarmedH s.vm) : va_K G vwCl (rt_tys ca) s := va_K.moved hs.alike Γ.2.2.1
theorem rt_get (Γ : rt_Γ l s0 a0 G ca) {index ci k : Nat} (F : rt_Fd own index ci k) (hd : decode cc pc = .ok (.getfield index, 3)) {i : Nat} {fs : List Value} {v : Value} (hcell : w.2.2 i = some (.inr (ci, fs))) (hv : fs[k]? = some v) (kk : rt_Go l s0 G own nm cc nL ret tab d w0 Q (pc + 3) lv (v :: st) w) : rt_Go l s0 G own nm cc nL ret tab d w0 Q pc lv (rt_r s0 i :: st) w := by
  intro p e s m args below meth c E H locs ls hP h1 h2 hS hl
  obtain ⟨C, T, N, ref, n2, ds, fin, hw, hc, hin, hT, hk⟩ := F
  have hs := E.2.2.2.2.2.2.2.2.1
  exact va_get (ref := ref) (Ts := u_ws C T N) E.1 E.2.1 (fun w hw => rt_word Γ (hin w hw).1 (hin w hw).2 hs args) (fun w h => h) E.2.2.2.2.2.2.2.1 (rt_K Γ hs) (hP.one hcell) 0 rfl hc k hk (by rw [hT]; exact rt_word Γ hw rfl hs args) (by rw [hT]; exact fun x h => h) hv hd (kk p e s m args below meth c E H locs ls hP h1 h2 hS hl)
theorem rt_getN (Γ : rt_Γ l s0 a0 G ca) {index ci k : Nat} (F : rt_FdN own index ci k) (hd : decode cc pc = .ok (.getfield index, 3)) {i : Nat} {fs : List Value} {v : Value} (hcell : w.2.2 i = some (.inr (ci, fs))) (hv : fs[k]? = some v) (kk : rt_Go l s0 G own nm cc nL ret tab d w0 Q (pc + 3) lv (v :: st) w) : rt_Go l s0 G own nm cc nL ret tab d w0 Q pc lv (rt_r s0 i :: st) w := by
  intro p e s m args below meth c E H locs ls hP h1 h2 hS hl
  obtain ⟨C, T, N, ref, n2, ds, fin, host, hw, hc, hin, hT, hk⟩ := F
  have hs := E.2.2.2.2.2.2.2.2.1
  exact va_getN (ref := ref) (host := host) (Ts := u_ws C T N) E.1 E.2.1 (fun w hw => rt_word Γ (hin w hw).1 (hin w hw).2 hs args) (fun w h => h) E.2.2.2.2.2.2.2.1 (rt_K Γ hs) (hP.one hcell) 0 rfl hc k hk (by rw [hT]; exact va_Nw.use rfl (va_Nw.warmF hs (va_Nw.of rfl (Γ.2.1 _ hw)))) (by rw [hT]; exact fun x h => h) hv hd (kk p e s m args below meth c E H locs ls hP h1 h2 hS hl)
theorem rt_put (Γ : rt_Γ l s0 a0 G ca) {index ci k : Nat} {ty : FieldType} (F : rt_Fp own nm index ci k ty) (hd : decode cc pc = .ok (.putfield index, 3)) {i : Nat} {fs fs' : List Value} {v : Value} (hcell : w.2.2 i = some (.inr (ci, fs))) (hl9 : k < fs.length) (hn : narrow ty v = v) (hf : fits ty v = true) (hfs : fs.set k v = fs') (kk : rt_Go l s0 G own nm cc nL ret tab d w0 Q (pc + 3) lv st (rt_up w i (.inr (ci, fs')))) : rt_Go l s0 G own nm cc nL ret tab d w0 Q pc lv (v :: rt_r s0 i :: st) w := by
  intro p e s m args below meth c E H locs ls hP g1 g2 hSS hl
  subst hfs
  obtain ⟨C, T, N, ref, n2, ds, fin, ty0, hw, hc, hin, hT, hk, hty, hnm, hds, hfin⟩ := F
  obtain ⟨hx, hb, -, -, -, hnm2, -, hown, hs, -⟩ := id E
  have hts : ∀ w ∈ u_ws C T N, w.before args s = true := fun w hw => rt_word Γ (hin w hw).1 (hin w hw).2 hs args
  have hK := rt_K Γ hs
  have hap := va_apart (own := own) hts (fun w h => h) ty0 hty hnm hK hc
  have hP1 := hP.one hcell
  obtain ⟨r, h1, cell, q1, q2, q3, q4⟩ := hP1 0 _ rfl
  have hr : r = (C, T, N) := Option.some.inj (h1.symm.trans hc)
  subst hr
  obtain ⟨hS, hfc, kC, hkC, hkind⟩ := hK.1 ci _ hc
  obtain ⟨cf, kf, fi, f, hi, hsl⟩ := hS k hk
  have hlay := hts _ (u_in_lay hk)
  have hi' : s.fieldFound? ref n2 ds = some (cf, kf, fi, f) := by change s.fieldFound? (T k).1 (T k).2.1 (T k).2.2.1 = _ at hi; rw [hT] at hi; exact hi
  have hst := (u_facts hfc hkC (u_lays hts (fun w h => h) hk) hi).1
  have hd' : parseFieldDescriptor (T k).2.2.1 = some ty := by rw [hT]; exact hds
  have hlink := rt_word Γ hw rfl hs args
  have key : ∀ H' : Heap, H'[s0.heap.size + i]? = some (cell.setSlot (G.2 ci k) v) → H'.size = H.size → (∀ q, q ≠ s0.heap.size + i → H'[q]? = H[q]?) → rt_P s0 G (rt_up w i (.inr (ci, fs.set k v))) H' := fun H' e1 e2 e3 =>
    rt_P.up (e0 := .inr (ci, fs)) hP ⟨_, hc, t_OB.to (V := updV (vp_V fs) k v) ⟨_, e1, q2, q3, t_set q4 hap hk v⟩ (fun j _ => vp_updV_set hl9 v j)⟩ e2 e3
  rcases hfin with hfin | ⟨hfin, hnm3, href⟩
  · subst hfin
    have hfin' : (T k).2.2.2 = false := by rw [hT]
    unfold u_lay at hlay
    rw [if_neg (by rw [hfin']; decide)] at hlay
    have h6 := u_store hfc hkC hkind hlay hi hd' hn hf
    refine W.putK hx hb (f := f) ⟨hown, hlink, ⟨_, _, _, hi'⟩, hst⟩ (by rw [q2]; exact h6) q1 q3 (by rw [hsl]; exact k2_hasslot (q4 k hk)) rfl rfl hd fun H' e1 e2 e3 => ?_
    rw [hsl] at e1 ⊢
    exact kk p e s m args below meth c E H' _ ls (key H' e1 e2 e3) g1 g2 (hSS.put e2 e3 (Nat.le_add_right _ _)) hl
  · have hfin' : (T k).2.2.2 = true := by rw [hT]; exact hfin
    unfold u_lay at hlay
    rw [if_pos hfin'] at hlay
    have hcf : m.cls = cf := by
      obtain ⟨_, _, c', _, _, _, -, -, hf', -, -, -, hown2, -⟩ := Cond.laysFinal_spec hlay
      have e1 : c' = cf := by have := hi.symm.trans hf'; simp at this; exact this.1.symm
      rw [hT] at hown2
      rw [href] at hown2
      rw [← e1]; exact Option.some.inj (hown.symm.trans hown2)
    have h6 := u_fits hfc hkC hkind (Or.inr hlay) hi hd' hn hf
    refine W.putFinK hx hb hown hlink hi' hst hcf (hnm2.trans hnm3) (by rw [q2]; exact h6) q1 q3 (by rw [hsl]; exact k2_hasslot (q4 k hk)) rfl rfl hd fun H' e1 e2 e3 => ?_
    rw [hsl] at e1 ⊢
    exact kk p e s m args below meth c E H' _ ls (key H' e1 e2 e3) g1 g2 (hSS.put e2 e3 (Nat.le_add_right _ _)) hl
theorem rt_iald (Γ : rt_Γ l s0 a0 G ca) {i n : Nat} {f : Nat → Int32} {x : Int32} (hd : decode cc pc = .ok (.iaload, 1)) (hcell : w.2.2 i = some (.inl (ca 0, n, .inl f))) (hin : vp_in x n) (kk : rt_Go l s0 G own nm cc nL ret tab d w0 Q (pc + 1) lv (.int (f x.toNatClampNeg) :: st) w) : rt_Go l s0 G own nm cc nL ret tab d w0 Q pc lv (.int x :: rt_r s0 i :: st) w := by
  intro p e s m args below meth c E H locs ls hP h1 h2 hS hl
  exact va_iald E.1 E.2.1 (rt_K Γ E.2.2.2.2.2.2.2.2.1) (hP.one hcell) 0 0 rfl rfl hin hd (kk p e s m args below meth c E H locs ls hP h1 h2 hS hl)
theorem rt_bald (Γ : rt_Γ l s0 a0 G ca) {i n : Nat} {f : Nat → Int32} {x : Int32} (hd : decode cc pc = .ok (.baload, 1)) (hcell : w.2.2 i = some (.inl (ca 1, n, .inl f))) (hin : vp_in x n) (kk : rt_Go l s0 G own nm cc nL ret tab d w0 Q (pc + 1) lv (.int (f x.toNatClampNeg) :: st) w) : rt_Go l s0 G own nm cc nL ret tab d w0 Q pc lv (.int x :: rt_r s0 i :: st) w := by
  intro p e s m args below meth c E H locs ls hP h1 h2 hS hl
  exact va_bald E.1 E.2.1 (rt_K Γ E.2.2.2.2.2.2.2.2.1) (hP.one hcell) 0 1 rfl rfl hin hd (kk p e s m args below meth c E H locs ls hP h1 h2 hS hl)
theorem rt_zald (Γ : rt_Γ l s0 a0 G ca) {i n : Nat} {f : Nat → Int32} {x : Int32} (hd : decode cc pc = .ok (.baload, 1)) (hcell : w.2.2 i = some (.inl (ca 3, n, .inl f))) (hin : vp_in x n) (kk : rt_Go l s0 G own nm cc nL ret tab d w0 Q (pc + 1) lv (.int (f x.toNatClampNeg) :: st) w) : rt_Go l s0 G own nm cc nL ret tab d w0 Q pc lv (.int x :: rt_r s0 i :: st) w := by
  intro p e s m args below meth c E H locs ls hP h1 h2 hS hl
  exact va_zald E.1 E.2.1 (rt_K Γ E.2.2.2.2.2.2.2.2.1) (hP.one hcell) 0 3 rfl rfl hin hd (kk p e s m args below meth c E H locs ls hP h1 h2 hS hl)
theorem rt_lald (Γ : rt_Γ l s0 a0 G ca) {i n : Nat} {f : Nat → Int64} {x : Int32} (hd : decode cc pc = .ok (.laload, 1)) (hcell : w.2.2 i = some (.inl (ca 2, n, .inr (.inl f)))) (hin : vp_in x n) (kk : rt_Go l s0 G own nm cc nL ret tab d w0 Q (pc + 1) lv (.long (f x.toNatClampNeg) :: st) w) : rt_Go l s0 G own nm cc nL ret tab d w0 Q pc lv (.int x :: rt_r s0 i :: st) w := by
  intro p e s m args below meth c E H locs ls hP h1 h2 hS hl
  exact va_lald E.1 E.2.1 (rt_K Γ E.2.2.2.2.2.2.2.2.1) (hP.one hcell) 0 2 rfl rfl hin hd (kk p e s m args below meth c E H locs ls hP h1 h2 hS hl)
theorem rt_aldq (Γ : rt_Γ l s0 a0 G ca) {i n : Nat} {f : Nat → Option Nat} {x : Int32} (hd : decode cc pc = .ok (.aaload, 1)) (hcell : w.2.2 i = some (.inl (ca 4, n, .inr (.inr (.inr (.inr f)))))) (hin : vp_in x n) (kk : rt_Go l s0 G own nm cc nL ret tab d w0 Q (pc + 1) lv (va_rf (f x.toNatClampNeg) :: st) w) : rt_Go l s0 G own nm cc nL ret tab d w0 Q pc lv (.int x :: rt_r s0 i :: st) w := by
  intro p e s m args below meth c E H locs ls hP h1 h2 hS hl
  exact va_aldq E.1 E.2.1 (rt_K Γ E.2.2.2.2.2.2.2.2.1) (hP.one hcell) 0 4 rfl rfl hin hd (kk p e s m args below meth c E H locs ls hP h1 h2 hS hl)
theorem rt_alen (Γ : rt_Γ l s0 a0 G ca) {i t : Nat} {ty : FieldType} {x : vp_A} {v : Int32} (hd : decode cc pc = .ok (.arraylength, 1)) (ht : (rt_tys ca)[t]? = some (ca t, ty)) (hcell : w.2.2 i = some (.inl (ca t, x))) (hv : Int32.ofNat x.1 = v) (kk : rt_Go l s0 G own nm cc nL ret tab d w0 Q (pc + 1) lv (.int v :: st) w) : rt_Go l s0 G own nm cc nL ret tab d w0 Q pc lv (rt_r s0 i :: st) w := by
  intro p e s m args below meth c E H locs ls hP h1 h2 hS hl
  exact va_alen E.1 E.2.1 (rt_K Γ E.2.2.2.2.2.2.2.2.1) (hP.one hcell) 0 t rfl ht hv hd (kk p e s m args below meth c E H locs ls hP h1 h2 hS hl)
theorem rt_iast (Γ : rt_Γ l s0 a0 G ca) {i n : Nat} {f : Nat → Int32} {j : Int32} {x : Int32} (hd : decode cc pc = .ok (.iastore, 1)) (hcell : w.2.2 i = some (.inl (ca 0, n, .inl f))) (hin : vp_in j n) (kk : rt_Go l s0 G own nm cc nL ret tab d w0 Q (pc + 1) lv st (rt_up w i (.inl (ca 0, n, .inl (upd f j.toNatClampNeg x))))) : rt_Go l s0 G own nm cc nL ret tab d w0 Q pc lv (.int x :: .int j :: rt_r s0 i :: st) w := by
  intro p e s m args below meth c E H locs ls hP h1 h2 hS hl
  refine W.iast E.1 E.2.1 (hP.2.2 i _ hcell) (((rt_K Γ E.2.2.2.2.2.2.2.2.1).2 0 _ rfl).1 n (fun j => .int (f j))) (fun q => by cases q) (by show ¬ (j < 0 ∨ (arrV _ _ _).slots.size ≤ _); rw [arrV_size]; exact hin) rfl rfl hd fun H1 e1 z oq => ?_
  refine kk p e s m args below meth c E H1 _ ls (rt_P.up (e0 := .inl (ca 0, n, .inl f)) hP ?_ z oq) h1 h2 (hS.put z oq (Nat.le_add_right _ _)) hl
  show H1[_]? = some (vp_cell _ _)
  rw [e1]
  rw [vp_cell_i, vp_cell_i, arrV_store]
  congr 2
  funext q
  by_cases hq : q = j.toNatClampNeg
  · subst hq
    simp [updV, upd]
    
  · simp [updV, upd, hq]
theorem rt_bast (Γ : rt_Γ l s0 a0 G ca) {i n : Nat} {f : Nat → Int32} {j : Int32} {x : Int32} (hd : decode cc pc = .ok (.bastore, 1)) (hcell : w.2.2 i = some (.inl (ca 1, n, .inl f))) (hin : vp_in j n) (kk : rt_Go l s0 G own nm cc nL ret tab d w0 Q (pc + 1) lv st (rt_up w i (.inl (ca 1, n, .inl (upd f j.toNatClampNeg (vp_nar .byte x)))))) : rt_Go l s0 G own nm cc nL ret tab d w0 Q pc lv (.int x :: .int j :: rt_r s0 i :: st) w := by
  intro p e s m args below meth c E H locs ls hP h1 h2 hS hl
  refine W.bast E.1 E.2.1 (hP.2.2 i _ hcell) (((rt_K Γ E.2.2.2.2.2.2.2.2.1).2 1 _ rfl).1 n (fun j => .int (f j))) (fun q => by cases q) (by show ¬ (j < 0 ∨ (arrV _ _ _).slots.size ≤ _); rw [arrV_size]; exact hin) rfl rfl hd fun H1 e1 z oq => ?_
  refine kk p e s m args below meth c E H1 _ ls (rt_P.up (e0 := .inl (ca 1, n, .inl f)) hP ?_ z oq) h1 h2 (hS.put z oq (Nat.le_add_right _ _)) hl
  show H1[_]? = some (vp_cell _ _)
  rw [e1]
  rw [vp_cell_i, vp_cell_i, arrV_store]
  congr 2
  funext q
  by_cases hq : q = j.toNatClampNeg
  · subst hq
    simp [updV, upd, vp_nar]
    try rfl
  · simp [updV, upd, hq]
theorem rt_zast (Γ : rt_Γ l s0 a0 G ca) {i n : Nat} {f : Nat → Int32} {j : Int32} {x : Int32} (hd : decode cc pc = .ok (.bastore, 1)) (hcell : w.2.2 i = some (.inl (ca 3, n, .inl f))) (hin : vp_in j n) (kk : rt_Go l s0 G own nm cc nL ret tab d w0 Q (pc + 1) lv st (rt_up w i (.inl (ca 3, n, .inl (upd f j.toNatClampNeg (vp_nar .boolean x)))))) : rt_Go l s0 G own nm cc nL ret tab d w0 Q pc lv (.int x :: .int j :: rt_r s0 i :: st) w := by
  intro p e s m args below meth c E H locs ls hP h1 h2 hS hl
  refine W.zast E.1 E.2.1 (hP.2.2 i _ hcell) (((rt_K Γ E.2.2.2.2.2.2.2.2.1).2 3 _ rfl).1 n (fun j => .int (f j))) (fun q => by cases q) (by show ¬ (j < 0 ∨ (arrV _ _ _).slots.size ≤ _); rw [arrV_size]; exact hin) rfl rfl hd fun H1 e1 z oq => ?_
  refine kk p e s m args below meth c E H1 _ ls (rt_P.up (e0 := .inl (ca 3, n, .inl f)) hP ?_ z oq) h1 h2 (hS.put z oq (Nat.le_add_right _ _)) hl
  show H1[_]? = some (vp_cell _ _)
  rw [e1]
  rw [vp_cell_i, vp_cell_i, arrV_store]
  congr 2
  funext q
  by_cases hq : q = j.toNatClampNeg
  · subst hq
    simp [updV, upd, vp_nar]
    try rfl
  · simp [updV, upd, hq]
theorem rt_last (Γ : rt_Γ l s0 a0 G ca) {i n : Nat} {f : Nat → Int64} {j : Int32} {x : Int64} (hd : decode cc pc = .ok (.lastore, 1)) (hcell : w.2.2 i = some (.inl (ca 2, n, .inr (.inl f)))) (hin : vp_in j n) (kk : rt_Go l s0 G own nm cc nL ret tab d w0 Q (pc + 1) lv st (rt_up w i (.inl (ca 2, n, .inr (.inl (vp_updL f j.toNatClampNeg x)))))) : rt_Go l s0 G own nm cc nL ret tab d w0 Q pc lv (.long x :: .int j :: rt_r s0 i :: st) w := by
  intro p e s m args below meth c E H locs ls hP h1 h2 hS hl
  refine W.last E.1 E.2.1 (hP.2.2 i _ hcell) (((rt_K Γ E.2.2.2.2.2.2.2.2.1).2 2 _ rfl).1 n (fun j => .long (f j))) (fun q => by cases q) (by show ¬ (j < 0 ∨ (arrV _ _ _).slots.size ≤ _); rw [arrV_size]; exact hin) rfl rfl hd fun H1 e1 z oq => ?_
  refine kk p e s m args below meth c E H1 _ ls (rt_P.up (e0 := .inl (ca 2, n, .inr (.inl f))) hP ?_ z oq) h1 h2 (hS.put z oq (Nat.le_add_right _ _)) hl
  show H1[_]? = some (vp_cell _ _)
  rw [e1]
  rw [vp_cell_l, vp_cell_l, arrV_store]
  congr 2
  funext q
  by_cases hq : q = j.toNatClampNeg
  · subst hq
    simp [updV, vp_updL]
    
  · simp [updV, vp_updL, hq]
theorem rt_astq (Γ : rt_Γ l s0 a0 G ca) {i n v : Nat} {f : Nat → Option Nat} {j : Int32} {vs : List Value} (hd : decode cc pc = .ok (.aastore, 1)) (hcell : w.2.2 i = some (.inl (ca 4, n, .inr (.inr (.inr (.inr f)))))) (hv : w.2.2 v = some (.inr (6, vs))) (hin : vp_in j n) (kk : rt_Go l s0 G own nm cc nL ret tab d w0 Q (pc + 1) lv st (rt_up w i (.inl (ca 4, n, .inr (.inr (.inr (.inr (va_up f j.toNatClampNeg (some (s0.heap.size + v)))))))))) : rt_Go l s0 G own nm cc nL ret tab d w0 Q pc lv (rt_r s0 v :: .int j :: rt_r s0 i :: st) w := by
  intro p e s m args below meth c E H locs ls hP h1 h2 hS hl
  have hK := rt_K Γ E.2.2.2.2.2.2.2.2.1
  have hlt : j.toNatClampNeg < n := Nat.not_le.mp fun q => hin (Or.inr q)
  have h0 : ¬ j < 0 := fun q => hin (Or.inl q)
  have hP1 := hP.one hv
  obtain ⟨r', hr', cellV, g1, g2, g3, -⟩ := hP1 0 _ rfl
  have hcls := (hK.1 6 (RX6, TX6, 13) rfl).2
  obtain ⟨kA, comp, k1, k2, k3, -⟩ := (hK.2 4 _ rfl).2
  have hcomp : comp = G.1 6 := Option.some.inj (k3.symm.trans hcls.1)
  subst hcomp
  obtain ⟨kC, hkC, -⟩ := hcls.2
  refine W.aast E.1 E.2.1 (hP.2.2 i _ hcell) (fun q h => by cases h) (fun h => by cases h) k1 k2 rfl hkC ⟨h0, by show _ < (arrV _ _ _).slots.size; rw [arrV_size]; exact hlt⟩ g1 (fun q h => by rw [g3] at h; cases h) (by rw [g2]; exact hkC) (by rw [g2]; exact va_assign hcls) rfl rfl hd fun H1 e1 z oq => ?_
  refine kk p e s m args below meth c E H1 _ ls (rt_P.up (e0 := .inl (ca 4, n, .inr (.inr (.inr (.inr f))))) hP ?_ z oq) h1 h2 (hS.put z oq (Nat.le_add_right _ _)) hl
  show H1[_]? = some (vp_cell _ _)
  rw [e1]
  rw [vp_cell_q, vp_cell_q, arrV_store]
  congr 2
  funext q
  by_cases hq : q = j.toNatClampNeg
  · subst hq
    simp [updV, va_up, va_rf]
  · simp [updV, va_up, hq]
theorem rt_new (Γ : rt_Γ l s0 a0 G ca) {index ci N : Nat} {fs : List Value} (F : rt_Fn own index ci N fs) (hd : decode cc pc = .ok (.new index, 3)) (hr : w.1 + 1 ≤ 600000 ∧ w.2.1 + N ≤ 7300000) (kk : rt_Go l s0 G own nm cc nL ret tab d w0 Q (pc + 3) lv (rt_r s0 w.1 :: st) (rt_nw w N (.inr (ci, fs)))) : rt_Go l s0 G own nm cc nL ret tab d w0 Q pc lv st w := by
  intro p e s m args below meth c E H locs ls hP h1 h2 hS hl
  obtain ⟨C, T, ty0, hw1, hw2, hw3, hc, hin, hty, hfs⟩ := F
  have hs := E.2.2.2.2.2.2.2.2.1
  have hown := E.2.2.2.2.2.2.2.1
  have hts : ∀ w ∈ u_ws C T N, w.before args s = true := fun w hw => rt_word Γ (hin w hw).1 (hin w hw).2 hs args
  have hK := rt_K Γ hs
  have hKn := hK.1 ci _ hc
  refine W.newcK (C := C) (index := index) E.1 E.2.1 hown (rt_word Γ hw1 rfl hs args) (rt_word Γ hw2 rfl hs args) (rt_word Γ hw3 rfl hs args) rfl hd (by show w.1 - w0.1 + 1 ≤ 600000 - w0.1; omega) (by show w.2.1 - w0.2.1 + N ≤ 7300000 - w0.2.1; omega) hKn.2.1 hP.1 fun H1 kC hkC e1 z1 o1 => ?_
  have hP1 : rt_P s0 G (rt_nw w N (.inr (ci, fs))) H1 := rt_P.nw hP ⟨_, hc, (u_born ty0 hts (fun w h => h) hKn hkC e1 hty).to hfs⟩ (by rw [z1, hP.1]) (fun q hq => o1 q (by rw [← hP.1]; exact hq))
  have hS1 : va_S (fun q => s0.heap.size ≤ q) s.heap H1 locs := ⟨Nat.le_trans hS.1 (by rw [z1, hP.1]; omega), fun q q1 q2 => (o1 q (by have := hS.1; rw [hP.1] at this; omega)).trans (hS.2.1 q q1 q2), hS.2.2⟩
  have K := kk p e s m args below meth c E H1 locs ls hP1 (Nat.le_succ_of_le h1) (Nat.le_trans h2 (Nat.le_add_right _ _)) hS1 hl
  rw [show (rt_nw w N (.inr (ci, fs))).1 - w0.1 = w.1 - w0.1 + 1 from Nat.sub_add_comm h1, show (rt_nw w N (.inr (ci, fs))).2.1 - w0.2.1 = w.2.1 - w0.2.1 + N from Nat.sub_add_comm h2] at K
  exact K
theorem rt_newaI (Γ : rt_Γ l s0 a0 G ca) {x : Int32} {N : Nat} (hd : decode cc pc = .ok (.newarray .int, 2)) (hw : Cond.arrayClass .int ∈ lw_tbl) (hn : ¬ x < 0) (hN : x.toNatClampNeg = N) (hb9 : N ≤ 60000) (hr : w.1 + 1 ≤ 600000 ∧ w.2.1 + N ≤ 7300000) (kk : rt_Go l s0 G own nm cc nL ret tab d w0 Q (pc + 2) lv (rt_r s0 w.1 :: st) (rt_nw w N (.inl (ca 0, N, .inl (fun _ => 0))))) : rt_Go l s0 G own nm cc nL ret tab d w0 Q pc lv (.int x :: st) w := by
  intro p e s m args below meth c E H locs ls hP h1 h2 hS hl
  have hs := E.2.2.2.2.2.2.2.2.1
  have hcA9 : s.vm.findClass ("[" ++ (newarray.typeOf .int).toString) = some (ca 0) := ((rt_K Γ hs).2 0 _ rfl).2
  refine va_newaK (atype := .int) E.1 E.2.1 (rt_word Γ hw rfl hs args) rfl hd rfl hn hN (by show N * _ ≤ _; simp only [newarray.typeOf, componentBytes]; omega) (by show w.1 - w0.1 + 1 ≤ 600000 - w0.1; omega) (by show w.2.1 - w0.2.1 + N ≤ 7300000 - w0.2.1; omega) hP.1 fun H1 cA e1 z1 o1 hAr hNm => ?_
  cases Option.some.inj (hNm.symm.trans hcA9)
  have hP1 : rt_P s0 G (rt_nw w N (.inl (ca 0, N, .inl (fun _ => 0)))) H1 := rt_P.nw hP e1 (by rw [z1, hP.1]) (fun q hq => o1 q (by rw [← hP.1]; exact hq))
  have hS1 : va_S (fun q => s0.heap.size ≤ q) s.heap H1 locs := ⟨Nat.le_trans hS.1 (by rw [z1, hP.1]; omega), fun q q1 q2 => (o1 q (by have := hS.1; rw [hP.1] at this; omega)).trans (hS.2.1 q q1 q2), hS.2.2⟩
  have K := kk p e s m args below meth c E H1 locs ls hP1 (Nat.le_succ_of_le h1) (Nat.le_trans h2 (Nat.le_add_right _ _)) hS1 hl
  rw [show (rt_nw w N (.inl (ca 0, N, .inl (fun _ => 0)))).1 - w0.1 = w.1 - w0.1 + 1 from Nat.sub_add_comm h1, show (rt_nw w N (.inl (ca 0, N, .inl (fun _ => 0)))).2.1 - w0.2.1 = w.2.1 - w0.2.1 + N from Nat.sub_add_comm h2] at K
  exact K
theorem rt_newaB (Γ : rt_Γ l s0 a0 G ca) {x : Int32} {N : Nat} (hd : decode cc pc = .ok (.newarray .byte, 2)) (hw : Cond.arrayClass .byte ∈ lw_tbl) (hn : ¬ x < 0) (hN : x.toNatClampNeg = N) (hb9 : N ≤ 60000) (hr : w.1 + 1 ≤ 600000 ∧ w.2.1 + N ≤ 7300000) (kk : rt_Go l s0 G own nm cc nL ret tab d w0 Q (pc + 2) lv (rt_r s0 w.1 :: st) (rt_nw w N (.inl (ca 1, N, .inl (fun _ => 0))))) : rt_Go l s0 G own nm cc nL ret tab d w0 Q pc lv (.int x :: st) w := by
  intro p e s m args below meth c E H locs ls hP h1 h2 hS hl
  have hs := E.2.2.2.2.2.2.2.2.1
  have hcA9 : s.vm.findClass ("[" ++ (newarray.typeOf .byte).toString) = some (ca 1) := ((rt_K Γ hs).2 1 _ rfl).2
  refine va_newaK (atype := .byte) E.1 E.2.1 (rt_word Γ hw rfl hs args) rfl hd rfl hn hN (by show N * _ ≤ _; simp only [newarray.typeOf, componentBytes]; omega) (by show w.1 - w0.1 + 1 ≤ 600000 - w0.1; omega) (by show w.2.1 - w0.2.1 + N ≤ 7300000 - w0.2.1; omega) hP.1 fun H1 cA e1 z1 o1 hAr hNm => ?_
  cases Option.some.inj (hNm.symm.trans hcA9)
  have hP1 : rt_P s0 G (rt_nw w N (.inl (ca 1, N, .inl (fun _ => 0)))) H1 := rt_P.nw hP e1 (by rw [z1, hP.1]) (fun q hq => o1 q (by rw [← hP.1]; exact hq))
  have hS1 : va_S (fun q => s0.heap.size ≤ q) s.heap H1 locs := ⟨Nat.le_trans hS.1 (by rw [z1, hP.1]; omega), fun q q1 q2 => (o1 q (by have := hS.1; rw [hP.1] at this; omega)).trans (hS.2.1 q q1 q2), hS.2.2⟩
  have K := kk p e s m args below meth c E H1 locs ls hP1 (Nat.le_succ_of_le h1) (Nat.le_trans h2 (Nat.le_add_right _ _)) hS1 hl
  rw [show (rt_nw w N (.inl (ca 1, N, .inl (fun _ => 0)))).1 - w0.1 = w.1 - w0.1 + 1 from Nat.sub_add_comm h1, show (rt_nw w N (.inl (ca 1, N, .inl (fun _ => 0)))).2.1 - w0.2.1 = w.2.1 - w0.2.1 + N from Nat.sub_add_comm h2] at K
  exact K
theorem rt_newaL (Γ : rt_Γ l s0 a0 G ca) {x : Int32} {N : Nat} (hd : decode cc pc = .ok (.newarray .long, 2)) (hw : Cond.arrayClass .long ∈ lw_tbl) (hn : ¬ x < 0) (hN : x.toNatClampNeg = N) (hb9 : N ≤ 60000) (hr : w.1 + 1 ≤ 600000 ∧ w.2.1 + N ≤ 7300000) (kk : rt_Go l s0 G own nm cc nL ret tab d w0 Q (pc + 2) lv (rt_r s0 w.1 :: st) (rt_nw w N (.inl (ca 2, N, .inr (.inl (fun _ => 0)))))) : rt_Go l s0 G own nm cc nL ret tab d w0 Q pc lv (.int x :: st) w := by
  intro p e s m args below meth c E H locs ls hP h1 h2 hS hl
  have hs := E.2.2.2.2.2.2.2.2.1
  have hcA9 : s.vm.findClass ("[" ++ (newarray.typeOf .long).toString) = some (ca 2) := ((rt_K Γ hs).2 2 _ rfl).2
  refine va_newaK (atype := .long) E.1 E.2.1 (rt_word Γ hw rfl hs args) rfl hd rfl hn hN (by show N * _ ≤ _; simp only [newarray.typeOf, componentBytes]; omega) (by show w.1 - w0.1 + 1 ≤ 600000 - w0.1; omega) (by show w.2.1 - w0.2.1 + N ≤ 7300000 - w0.2.1; omega) hP.1 fun H1 cA e1 z1 o1 hAr hNm => ?_
  cases Option.some.inj (hNm.symm.trans hcA9)
  have hP1 : rt_P s0 G (rt_nw w N (.inl (ca 2, N, .inr (.inl (fun _ => 0))))) H1 := rt_P.nw hP e1 (by rw [z1, hP.1]) (fun q hq => o1 q (by rw [← hP.1]; exact hq))
  have hS1 : va_S (fun q => s0.heap.size ≤ q) s.heap H1 locs := ⟨Nat.le_trans hS.1 (by rw [z1, hP.1]; omega), fun q q1 q2 => (o1 q (by have := hS.1; rw [hP.1] at this; omega)).trans (hS.2.1 q q1 q2), hS.2.2⟩
  have K := kk p e s m args below meth c E H1 locs ls hP1 (Nat.le_succ_of_le h1) (Nat.le_trans h2 (Nat.le_add_right _ _)) hS1 hl
  rw [show (rt_nw w N (.inl (ca 2, N, .inr (.inl (fun _ => 0))))).1 - w0.1 = w.1 - w0.1 + 1 from Nat.sub_add_comm h1, show (rt_nw w N (.inl (ca 2, N, .inr (.inl (fun _ => 0))))).2.1 - w0.2.1 = w.2.1 - w0.2.1 + N from Nat.sub_add_comm h2] at K
  exact K
theorem rt_newaZ (Γ : rt_Γ l s0 a0 G ca) {x : Int32} {N : Nat} (hd : decode cc pc = .ok (.newarray .boolean, 2)) (hw : Cond.arrayClass .boolean ∈ lw_tbl) (hn : ¬ x < 0) (hN : x.toNatClampNeg = N) (hb9 : N ≤ 60000) (hr : w.1 + 1 ≤ 600000 ∧ w.2.1 + N ≤ 7300000) (kk : rt_Go l s0 G own nm cc nL ret tab d w0 Q (pc + 2) lv (rt_r s0 w.1 :: st) (rt_nw w N (.inl (ca 3, N, .inl (fun _ => 0))))) : rt_Go l s0 G own nm cc nL ret tab d w0 Q pc lv (.int x :: st) w := by
  intro p e s m args below meth c E H locs ls hP h1 h2 hS hl
  have hs := E.2.2.2.2.2.2.2.2.1
  have hcA9 : s.vm.findClass ("[" ++ (newarray.typeOf .boolean).toString) = some (ca 3) := ((rt_K Γ hs).2 3 _ rfl).2
  refine va_newaK (atype := .boolean) E.1 E.2.1 (rt_word Γ hw rfl hs args) rfl hd rfl hn hN (by show N * _ ≤ _; simp only [newarray.typeOf, componentBytes]; omega) (by show w.1 - w0.1 + 1 ≤ 600000 - w0.1; omega) (by show w.2.1 - w0.2.1 + N ≤ 7300000 - w0.2.1; omega) hP.1 fun H1 cA e1 z1 o1 hAr hNm => ?_
  cases Option.some.inj (hNm.symm.trans hcA9)
  have hP1 : rt_P s0 G (rt_nw w N (.inl (ca 3, N, .inl (fun _ => 0)))) H1 := rt_P.nw hP e1 (by rw [z1, hP.1]) (fun q hq => o1 q (by rw [← hP.1]; exact hq))
  have hS1 : va_S (fun q => s0.heap.size ≤ q) s.heap H1 locs := ⟨Nat.le_trans hS.1 (by rw [z1, hP.1]; omega), fun q q1 q2 => (o1 q (by have := hS.1; rw [hP.1] at this; omega)).trans (hS.2.1 q q1 q2), hS.2.2⟩
  have K := kk p e s m args below meth c E H1 locs ls hP1 (Nat.le_succ_of_le h1) (Nat.le_trans h2 (Nat.le_add_right _ _)) hS1 hl
  rw [show (rt_nw w N (.inl (ca 3, N, .inl (fun _ => 0)))).1 - w0.1 = w.1 - w0.1 + 1 from Nat.sub_add_comm h1, show (rt_nw w N (.inl (ca 3, N, .inl (fun _ => 0)))).2.1 - w0.2.1 = w.2.1 - w0.2.1 + N from Nat.sub_add_comm h2] at K
  exact K
end RTheap
