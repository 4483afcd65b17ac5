/-! ===== throw new E(), throw new E(text) ===== -/
theorem rt_wordG {l : Launch} {s0 : State} {a0 : Array Value} {G : va_G} {ca : Nat → ClassId} (Γ : rt_Γ l s0 a0 G ca) {wd : Cond} (hw : wd ∈ lw_tbl) (hg : rt_gw wd = true) {s : State} (hs : s0.WarmedH s.vm) (a : Array Value) : wd.before a s = true := by
  rcases rt_gw_or hg with ⟨x, y, rfl⟩ | h | h
  · exact va_Nw.use rfl (va_Nw.warmC hs (va_Nw.of rfl (Γ.2.1 _ hw)))
  · exact rt_word Γ hw h hs a
  · simp only [Bool.and_eq_true] at h
    have h1 : wd.before a0 (s0.setVm s.vm) = true := Cond.before_shiftedFace (State.Shifted.of_warmed hs) _ h.2 (Γ.2.1 _ hw)
    exact va_tabs h.1 (rfl : (s0.setVm s.vm).vm = s.vm) h1
theorem rt_thr {s0 : State} {G : va_G} {w0 w : rt_Wd} {Q : rt_Res → rt_Wd → Prop} {cls : String} {below : List Frame} {args : Array Value} {s : State} {H : Heap} (hP : rt_P s0 G w H) (h1 : w0.1 ≤ w.1) (h2 : w0.2.1 ≤ w.2.1) (hs : rt_P s0 G w0 s.heap) (hQ : ∀ n : Nat, w.1 ≤ n → n ≤ w.1 + 1 → Q (.inr cls) (n, w.2.1 + 6, w.2.2)) :
    ∀ t, vx_MQ below (fun _ _ _ _ => False) (fun E _ t => E = cls ∧ H.size ≤ t.heap.size ∧ ∀ q : Nat, q < H.size → t.heap[q]? = H[q]?) args s (w.1 - w0.1 + 1) (w.2.1 - w0.2.1 + 6) (fun q => s0.heap.size ≤ q) t → rt_Fin s0 G w0 Q below s t := by
  rintro t ⟨o, g1, g2, g3⟩
  rcases g3 with ⟨h, -⟩ | ⟨q, rfl, E, ce, L, ⟨rfl, k1, k2⟩, k3, k4, k5, k6, k7, k8⟩
  · exact h.elim
  · obtain ⟨e, q2, q3, q4, q5, q6⟩ := k7
    have q3' : t.heap.size ≤ s.heap.size + (w.1 - w0.1 + 1) := q3
    have z1 := hP.1
    have z2 := hs.1
    have hn : t.heap.size = s0.heap.size + (t.heap.size - s0.heap.size) := by omega
    refine ⟨_, g1, g2, .inr E, (t.heap.size - s0.heap.size, w.2.1 + 6, w.2.2), L, hQ _ (by omega) (by omega), ⟨q, ce, rfl, k3, k4, k5⟩, ⟨hn, fun q hq => (k2 q (by omega)).trans (hP.2.1 q hq), fun i x hi => (hP.2.2 i x hi).kept (k2 _ (hP.2.2 i x hi).lt)⟩, ?_, ?_, k6, ⟨e, q2, ?_, q4, ?_, q6⟩, k8⟩
    · show w0.1 ≤ t.heap.size - s0.heap.size
      omega
    · show w0.2.1 ≤ w.2.1 + 6
      omega
    · show t.heap.size ≤ s.heap.size + (t.heap.size - s0.heap.size - w0.1)
      omega
    · refine Nat.le_trans q5 ?_
      show w.2.1 - w0.2.1 + 6 ≤ w.2.1 + 6 - w0.2.1
      omega
section RTthrow
variable {l : Launch} {s0 : State} {a0 : Array Value} {G : va_G} {ca : Nat → ClassId} {own nm : String} {cc : ByteArray} {nL : Nat} {ret : Option FieldType} {tab : List ExceptionTableEntry} {d : Nat} {w0 w : rt_Wd} {Q : rt_Res → rt_Wd → Prop} {pc : Nat} {lv lv' : List (Nat × Value)} {st : List Value}
theorem rt_throw0 (Γ : rt_Γ l s0 a0 G ca) {cls : String} {names : List String} {ik ic : Nat} (F : rt_Th own cls names ik (vx_at0 own ic cls names)) (d0 : decode cc pc = .ok (.new ik, 3)) (d3 : decode cc (pc + 3) = .ok (.dup, 1)) (d4 : decode cc (pc + 4) = .ok (.invokespecial ic, 3)) (d7 : decode cc (pc + 7) = .ok (.athrow, 1))
    (hout : ∀ x ∈ tab, covers x (pc + 7) = false) (hst : (st.map fun v => v.category).sum ≤ 12) (hr : w.1 + 1 ≤ 600000 ∧ w.2.1 + 6 ≤ 7300000) (hQ : ∀ n : Nat, w.1 ≤ n → n ≤ w.1 + 1 → Q (.inr cls) (n, w.2.1 + 6, w.2.2)) : rt_Go l s0 G own nm cc nL ret tab d w0 Q pc lv st w := by
  intro p e s m args below meth c E H locs ls hP h1 h2 hS hl
  obtain ⟨f1, f2, f3, f4, f5, f6⟩ := F
  have hs := E.2.2.2.2.2.2.2.2.1
  have hsz : s0.heap.size ≤ s.heap.size := by rw [E.2.2.2.2.2.2.2.2.2.1]; omega
  have hk9 : ∀ a : Nat, a < s0.heap.size → ¬ s0.heap.size ≤ a → s.heap[a]? = s0.heap[a]? := fun a ha _ => E.2.2.2.2.2.2.2.2.2.2.1 a ha
  refine rt_Wmono (rt_thr hP h1 h2 E.2.2.2.2.2.2.2.2.2 hQ) (vx_throw0 (names := names) E.1 E.2.1 Γ.1 E.2.2.2.2.2.2.2.1 f4 f5 (rt_word Γ f1 rfl hs args) (rt_word Γ f2 rfl hs args) (fun w hw => rt_wordG Γ (f3 w hw).1 (f3 w hw).2 hs args) (fun w hw => ?_) (vx_Zq.moved hs.alike (Γ.2.2.2.1.1.kept hk9)) (vx_Zq.moved hs.alike (Γ.2.2.2.1.2.kept hk9)) hS (hl.1.trans E.2.2.1.symm) d0 d3 d4 d7 (by rw [E.2.2.2.2.2.2.1]; exact hout) (by show names.length + 3 < d + 12; omega) (by show _ ≤ 41 * d + 524; omega) (by show w.1 - w0.1 + 1 ≤ 600000 - w0.1; omega) (by show w.2.1 - w0.2.1 + 6 ≤ 7300000 - w0.2.1; omega) E.2.2.2.2.1 (fun t ht z1 z2 => ⟨rfl, z1, z2⟩) hS.2.2 (Nat.le_refl _) (Nat.le_refl _))
  rcases List.mem_cons.mp hw with rfl | hw
  · rfl
  · rcases List.mem_cons.mp hw with rfl | hw
    · rfl
    · exact rt_gw_ot (f3 w hw).2
theorem rt_throwS (Γ : rt_Γ l s0 a0 G ca) {cls text : String} {names : List String} {ik ic is sa : Nat} (F : rt_Th own cls names ik (vx_atS own ic cls names)) (hstr : vk_R own is text sa s0) (d0 : decode cc pc = .ok (.new ik, 3)) (d3 : decode cc (pc + 3) = .ok (.dup, 1)) (d4 : decode cc (pc + 4) = .ok (.ldc is, 2)) (d6 : decode cc (pc + 6) = .ok (.invokespecial ic, 3)) (d9 : decode cc (pc + 9) = .ok (.athrow, 1))
    (hout : ∀ x ∈ tab, covers x (pc + 9) = false) (hst : (st.map fun v => v.category).sum ≤ 12) (hr : w.1 + 1 ≤ 600000 ∧ w.2.1 + 6 ≤ 7300000) (hQ : ∀ n : Nat, w.1 ≤ n → n ≤ w.1 + 1 → Q (.inr cls) (n, w.2.1 + 6, w.2.2)) : rt_Go l s0 G own nm cc nL ret tab d w0 Q pc lv st w := by
  intro p e s m args below meth c E H locs ls hP h1 h2 hS hl
  obtain ⟨f1, f2, f3, f4, f5, f6⟩ := F
  have hs := E.2.2.2.2.2.2.2.2.1
  have hsz : s0.heap.size ≤ s.heap.size := by rw [E.2.2.2.2.2.2.2.2.2.1]; omega
  have hk9 : ∀ a : Nat, a < s0.heap.size → ¬ s0.heap.size ≤ a → s.heap[a]? = s0.heap[a]? := fun a ha _ => E.2.2.2.2.2.2.2.2.2.2.1 a ha
  refine rt_Wmono (rt_thr hP h1 h2 E.2.2.2.2.2.2.2.2.2 hQ) (vx_throwS (names := names) E.1 E.2.1 Γ.1 E.2.2.2.2.2.2.2.1 f4 f5 (rt_word Γ f1 rfl hs args) (rt_word Γ f2 rfl hs args) (vk_R.warm hs hstr) (fun w hw => rt_wordG Γ (f3 w hw).1 (f3 w hw).2 hs args) (fun w hw => ?_) (vx_Zq.moved hs.alike (Γ.2.2.2.1.1.kept hk9)) (vx_Zq.moved hs.alike (Γ.2.2.2.1.2.kept hk9)) hS (hl.1.trans E.2.2.1.symm) d0 d3 d4 d6 d9 (by rw [E.2.2.2.2.2.2.1]; exact hout) (by show names.length + 3 < d + 12; omega) (by show _ ≤ 41 * d + 524; omega) (by show w.1 - w0.1 + 1 ≤ 600000 - w0.1; omega) (by show w.2.1 - w0.2.1 + 6 ≤ 7300000 - w0.2.1; omega) E.2.2.2.2.1 (fun t ht z1 z2 => ⟨rfl, z1, z2⟩) hS.2.2 (Nat.le_refl _) (Nat.le_refl _))
  rcases List.mem_cons.mp hw with rfl | hw
  · rfl
  · rcases List.mem_cons.mp hw with rfl | hw
    · rfl
    · exact rt_gw_ot (f3 w hw).2
theorem rt_throwSW (Γ : rt_Γ l s0 a0 G ca) {cls text : String} {names : List String} {ik ic is sa : Nat} (F : rt_Th own cls names ik (vx_atS own ic cls names)) (hstr : vk_R own is text sa s0) (d0 : decode cc pc = .ok (.new ik, 3)) (d3 : decode cc (pc + 3) = .ok (.dup, 1)) (d4 : decode cc (pc + 4) = .ok (.ldc_w is, 3)) (d7 : decode cc (pc + 7) = .ok (.invokespecial ic, 3)) (d10 : decode cc (pc + 10) = .ok (.athrow, 1))
    (hout : ∀ x ∈ tab, covers x (pc + 10) = false) (hst : (st.map fun v => v.category).sum ≤ 12) (hr : w.1 + 1 ≤ 600000 ∧ w.2.1 + 6 ≤ 7300000) (hQ : ∀ n : Nat, w.1 ≤ n → n ≤ w.1 + 1 → Q (.inr cls) (n, w.2.1 + 6, w.2.2)) : rt_Go l s0 G own nm cc nL ret tab d w0 Q pc lv st w := by
  intro p e s m args below meth c E H locs ls hP h1 h2 hS hl
  obtain ⟨f1, f2, f3, f4, f5, f6⟩ := F
  have hs := E.2.2.2.2.2.2.2.2.1
  have hsz : s0.heap.size ≤ s.heap.size := by rw [E.2.2.2.2.2.2.2.2.2.1]; omega
  have hk9 : ∀ a : Nat, a < s0.heap.size → ¬ s0.heap.size ≤ a → s.heap[a]? = s0.heap[a]? := fun a ha _ => E.2.2.2.2.2.2.2.2.2.2.1 a ha
  refine rt_Wmono (rt_thr hP h1 h2 E.2.2.2.2.2.2.2.2.2 hQ) (vx_throwSW (names := names) E.1 E.2.1 Γ.1 E.2.2.2.2.2.2.2.1 f4 f5 (rt_word Γ f1 rfl hs args) (rt_word Γ f2 rfl hs args) (vk_R.warm hs hstr) (fun w hw => rt_wordG Γ (f3 w hw).1 (f3 w hw).2 hs args) (fun w hw => ?_) (vx_Zq.moved hs.alike (Γ.2.2.2.1.1.kept hk9)) (vx_Zq.moved hs.alike (Γ.2.2.2.1.2.kept hk9)) hS (hl.1.trans E.2.2.1.symm) d0 d3 d4 d7 d10 (by rw [E.2.2.2.2.2.2.1]; exact hout) (by show names.length + 3 < d + 12; omega) (by show _ ≤ 41 * d + 524; omega) (by show w.1 - w0.1 + 1 ≤ 600000 - w0.1; omega) (by show w.2.1 - w0.2.1 + 6 ≤ 7300000 - w0.2.1; omega) E.2.2.2.2.1 (fun t ht z1 z2 => ⟨rfl, z1, z2⟩) hS.2.2 (Nat.le_refl _) (Nat.le_refl _))
  rcases List.mem_cons.mp hw with rfl | hw
  · rfl
  · rcases List.mem_cons.mp hw with rfl | hw
    · rfl
    · exact rt_gw_ot (f3 w hw).2
end RTthrow
