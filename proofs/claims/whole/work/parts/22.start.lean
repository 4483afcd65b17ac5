/-! ===== from the law's entry: what is fixed; the law's walk in the layer's words gives the claim's ===== -/
theorem rt_arr {s : State} {args : Array Value} {ty : FieldType} (h : (Cond.arrayClass ty).before args s = true) : ∃ cA : ClassId, ArrOfT s cA ty ∧ s.vm.findClass ("[" ++ ty.toString) = some cA := by
  obtain ⟨cA, kA, comp, h1, h2, h3⟩ := Cond.arrayClass_spec h
  exact ⟨cA, fun n z => ⟨fun k h => (by cases h), kA, h2, comp, h3⟩, h1⟩
theorem rt_arrO {s : State} {args : Array Value} {C : String} (h : (Cond.arrayOver (.object C)).before args s = true) : ∃ cA : ClassId, ArrOfT s cA (.object C) ∧ va_RA s cA (.object C) := by
  obtain ⟨comp, cA, kA, f1, f2, f3, f4, f5⟩ := Cond.arrayOver_spec h
  exact ⟨cA, fun n z => ⟨fun k h => (by cases h), kA, f3, comp, f4⟩, kA, comp, f3, f4, f1, f5⟩
theorem rt_lay_in {C : String} {T : u_T} {N : Nat} (h : rt_lay C T N) : ∀ w ∈ u_ws C T N, w ∈ lw_tbl := fun w hw => (h w hw).1
set_option maxRecDepth 100000 in
theorem rt_mkΓ {l : Launch} (hflags : l.flags = flags0) {s : State} {a0 : Array Value} (hts : ∀ w ∈ lw_tbl, w.before a0 s = true) (hgv : (Jvm.Cond.and given_1 narrow_1).before a0 s = true) : ∃ (G : va_G) (ca : Nat → ClassId), rt_Γ l s a0 G ca := by
  have hi : ∀ (k : Nat) (q : vw_C), vwCl[k]? = some q → ∃ (cC : ClassId) (iS : Nat → Nat), u_Kn s q.1 q.2.1 q.2.2 cC iS := by
    intro k q hq
    match k, hq with
    | 0, hq => cases hq; exact u_known (n := 2) hts (rt_lay_in kl_0) (hts _ (tc_1 _ (List.mem_of_getElem? (i := 35) (by decide +kernel))))
    | 1, hq => cases hq; exact u_known (n := 8) hts (rt_lay_in kl_1) (hts _ (tc_1 _ (List.mem_of_getElem? (i := 100) (by decide +kernel))))
    | 2, hq => cases hq; exact u_known (n := 3) hts (rt_lay_in kl_2) (hts _ (tc_1 _ (List.mem_of_getElem? (i := 106) (by decide +kernel))))
    | 3, hq => cases hq; exact u_known (n := 5) hts (rt_lay_in kl_3) (hts _ (tc_2 _ (List.mem_of_getElem? (i := 33) (by decide +kernel))))
    | 4, hq => cases hq; exact u_known (n := 8) hts (rt_lay_in kl_4) (hts _ (tc_1 _ (List.mem_of_getElem? (i := 197) (by decide +kernel))))
    | 5, hq => cases hq; exact u_known (n := 2) hts (rt_lay_in kl_5) (hts _ (tc_2 _ (List.mem_of_getElem? (i := 57) (by decide +kernel))))
    | 6, hq => cases hq; exact u_known (n := 13) hts (rt_lay_in kl_6) (hts _ (tc_1 _ (List.mem_of_getElem? (i := 124) (by decide +kernel))))
    | 7, hq => cases hq; exact u_known (n := 12) hts (rt_lay_in kl_7) (hts _ (tc_1 _ (List.mem_of_getElem? (i := 228) (by decide +kernel))))
    | 8, hq => cases hq; exact u_known (n := 13) hts (rt_lay_in kl_8) (hts _ (tc_1 _ (List.mem_of_getElem? (i := 51) (by decide +kernel))))
    | 9, hq => cases hq; exact u_known (n := 12) hts (rt_lay_in kl_9) (hts _ (tc_1 _ (List.mem_of_getElem? (i := 27) (by decide +kernel))))
    | 10, hq => cases hq; exact u_known (n := 35) hts (rt_lay_in kl_10) (hts _ (tc_6 _ (List.mem_of_getElem? (i := 105) (by decide +kernel))))
    | 11, hq => cases hq; exact u_known (n := 26) hts (rt_lay_in kl_11) (hts _ (tc_6 _ (List.mem_of_getElem? (i := 99) (by decide +kernel))))
    | k + 12, hq => simp [vwCl] at hq
  have h0 : ∀ k : Nat, ∃ x : ClassId × (Nat → Nat), ∀ q : vw_C, vwCl[k]? = some q → u_Kn s q.1 q.2.1 q.2.2 x.1 x.2 := by
    intro k
    cases hk : vwCl[k]? with
    | none => exact ⟨(0, fun _ => 0), fun q h => by cases h⟩
    | some q =>
      obtain ⟨c, i, h⟩ := hi k q hk
      exact ⟨(c, i), fun q' h' => by cases h'; exact h⟩
  obtain ⟨f, hf⟩ := Classical.axiomOfChoice h0
  obtain ⟨c0, p0, q0⟩ := rt_arr (hts _ ka_I)
  obtain ⟨c1, p1, q1⟩ := rt_arr (hts _ ka_B)
  obtain ⟨c2, p2, q2⟩ := rt_arr (hts _ ka_L)
  obtain ⟨c3, p3, q3⟩ := rt_arr (hts _ ka_Z)
  obtain ⟨c4, p4, q4⟩ := rt_arrO (hts _ kq_over)
  have hA : ∀ a : Nat, a < s.heap.size → ¬ (fun q => s.heap.size ≤ q) a := fun a h => Nat.not_le.mpr h
  have hlf := flat_of_before _ hgv
  refine ⟨(fun k => (f k).1, fun k => (f k).2), fun k => match k with | 0 => c0 | 1 => c1 | 2 => c2 | 3 => c3 | _ => c4, ?_, hts, ⟨fun k q h => hf k q h, fun k q h => ?_⟩, ⟨?_, ?_⟩, hgv⟩
  · rw [Launch.stackTraces, hflags]; decide +kernel
  · match k, h with
    | 0, h => cases h; exact ⟨p0, q0⟩
    | 1, h => cases h; exact ⟨p1, q1⟩
    | 2, h => cases h; exact ⟨p2, q2⟩
    | 3, h => cases h; exact ⟨p3, q3⟩
    | 4, h => cases h; exact ⟨p4, q4⟩
    | k + 5, h => simp [rt_tys] at h
  · exact vx_Zqof (hts _ (tc_2 _ (List.mem_of_getElem? (i := 160) (by decide +kernel)))) (hts _ (tc_1 _ (List.mem_of_getElem? (i := 13) (by decide +kernel)))) (hlf _ (List.mem_of_getElem? (i := 4) (by decide +kernel))) hA
  · exact vx_Zqof (hts _ (tc_2 _ (List.mem_of_getElem? (i := 162) (by decide +kernel)))) (hts _ (tc_1 _ (List.mem_of_getElem? (i := 13) (by decide +kernel)))) (hlf _ (List.mem_of_getElem? (i := 5) (by decide +kernel))) hA
/-- the world at the law's entry -/
def rt_w0 : rt_Wd := (0, 0, fun _ => none)
section RTl
variable {l : Launch} {s0 : State} {a0 : Array Value} {G : va_G} {ca : Nat → ClassId} {own nm : String} {cc : ByteArray} {nL : Nat} {ret : Option FieldType} {tab : List ExceptionTableEntry} {d : Nat} {w0 w : rt_Wd} {Q : rt_Res → rt_Wd → Prop} {pc : Nat} {lv lv' : List (Nat × Value)} {st : List Value}
/-- the script -/
theorem rt_sld {b L : Nat} {xs : Nat → Int32} (hX : va_X b L xs s0 s0.heap) (hbl : b < s0.heap.size) {i : Int32} (hd : decode cc pc = .ok (.iaload, 1)) (hin : vp_in i L) (kk : rt_Go l s0 G own nm cc nL ret tab d w0 Q (pc + 1) lv (.int (xs i.toNatClampNeg) :: st) w) : rt_Go l s0 G own nm cc nL ret tab d w0 Q pc lv (.int i :: .ref b :: st) w := by
  intro p e s m args below meth c E H locs ls hP h1 h2 hS hl
  have hs := E.2.2.2.2.2.2.2.2.1
  have hP0 := E.2.2.2.2.2.2.2.2.2
  exact va_sld E.1 E.2.1 (va_X.moved hs.alike (hX.kept (hP0.2.1 b hbl))) (by rw [hP0.1]; omega) (Nat.not_le.mpr hbl) hS hin hd (kk p e s m args below meth c E H locs ls hP h1 h2 hS hl)
theorem rt_slen {b L : Nat} {xs : Nat → Int32} (hX : va_X b L xs s0 s0.heap) (hbl : b < s0.heap.size) (hd : decode cc pc = .ok (.arraylength, 1)) (kk : rt_Go l s0 G own nm cc nL ret tab d w0 Q (pc + 1) lv (.int (nI L) :: st) w) : rt_Go l s0 G own nm cc nL ret tab d w0 Q pc lv (.ref b :: st) w := by
  intro p e s m args below meth c E H locs ls hP h1 h2 hS hl
  have hs := E.2.2.2.2.2.2.2.2.1
  have hP0 := E.2.2.2.2.2.2.2.2.2
  exact va_slen E.1 E.2.1 (va_X.moved hs.alike (hX.kept (hP0.2.1 b hbl))) (by rw [hP0.1]; omega) (Nat.not_le.mpr hbl) hS hd (kk p e s m args below meth c E H locs ls hP h1 h2 hS hl)
end RTl
abbrev rt_Ql : rt_Res → rt_Wd → Prop := fun r w' => r = .inl (some (.int 1)) ∧ w'.1 ≤ 600000 ∧ w'.2.1 ≤ 7300000
theorem rt_same {s t : State} {L : List Loc} {k n k' n' : Nat} (h : s.sameButNew t L k n) (hL : ∀ z ∈ L, s.heap.size ≤ z.base) (h1 : k ≤ k') (h2 : n ≤ n') : s.sameButNew t [] k' n' := by
  obtain ⟨e, q2, q3, q4, q5, q6⟩ := h
  refine ⟨e, q2, Nat.le_trans q3 (Nat.add_le_add_left h1 _), q4, Nat.le_trans q5 h2, fun a c hc => ?_⟩
  obtain ⟨c', g1, g2, g3, g4⟩ := q6 a c hc
  refine ⟨c', g1, g2, g3, fun i _ => g4 i (fun hm => ?_)⟩
  have := hL _ hm
  have hlt : a < s.heap.size := (Array.getElem?_eq_some_iff.mp hc).1
  exact absurd this (Nat.not_le.mpr hlt)
theorem rt_hasRoom {s : State} {pl : Platform} {r r' : Room} (h : s.hasRoom pl r = true) (h1 : r'.frames ≤ r.frames) (h2 : r'.cells ≤ r.cells) (h3 : r'.slots ≤ r.slots) (h4 : r'.locals ≤ r.locals) : s.hasRoom pl r' = true := by
  simp only [State.hasRoom, Bool.and_eq_true, decide_eq_true_eq] at h ⊢
  obtain ⟨⟨⟨⟨a1, a2, a3, a4, a5, a6⟩, a7⟩, a8⟩, a9⟩ := h
  exact ⟨⟨⟨⟨by omega, by omega, by omega, by omega, by omega, a6⟩, by omega⟩, by omega⟩, a9⟩
theorem rt_stand {p : Program} {l : Launch} {e : Env} {R R' : Room} {s : State} {m : MethodId} {args : Array Value} {below : List Frame} {meth : Method} {c : Code} {T : State} {locs : List Loc} {cells slots : Nat} (X : Stand p l e R s m args below meth c T locs cells slots) (h1 : R'.frames ≤ R.frames) (h2 : R'.cells ≤ R.cells) (h3 : R'.slots ≤ R.slots) (h4 : R'.locals ≤ R.locals) : Stand p l e R' s m args below meth c T locs cells slots :=
  { X with room := rt_hasRoom X.room h1 h2 h3 h4 }
