/-! ===== a method's entry, its ends, throws, catches, calls ===== -/
theorem rt_kc_spec {y : MethodName} {kc : Cond} {cc : ByteArray} {nL : Nat} {ret : Option FieldType} {tab : List ExceptionTableEntry} (K : rt_Kc y kc cc nL ret tab) {args : Array Value} {s : State} {mk : MethodId} (hn : s.methodNamed? y = some mk) (h : kc.before args s = true) :
    ∃ meth c, s.vm.method? mk = some meth ∧ meth.code = some c ∧ c.code = cc ∧ c.maxLocals = nL ∧ meth.sig.returnType = ret ∧ meth.locks = false ∧ c.exceptionTable.toList = tab ∧ parseMethodDescriptor y.desc = some meth.sig := by
  rcases K.2.2.1 with ⟨rfl, rfl⟩ | ⟨hh, rfl, rfl⟩
  · obtain ⟨meth, c, h1, h2, h3, h4, h5, h6, h7, h8⟩ := Cond.code_spec hn h
    exact ⟨meth, c, h1, h2, h3, h4, h5, h6, by rw [Array.isEmpty_iff.mp h7], h8⟩
  · obtain ⟨m9, meth, c, hn9, h1, h2, h3, h4, h5, h6, h7, h8⟩ := Cond.codeWith_spec h
    cases hn.symm.trans hn9
    exact ⟨meth, c, h1, h2, h3, h4, h6, h7, by rw [← h5, table_eq], h8⟩
theorem rt_Wmono {p : Program} {l : Launch} {e : Env} {R : Room} {s : State} {m : MethodId} {args : Array Value} {below : List Frame} {meth : Method} {c : Code} {H : Heap} {locs : List Loc} {cells slots : Nat} {Q1 Q2 : State → Prop} {g : JFrame} (h : ∀ t, Q1 t → Q2 t) (k : W p l e R s m args below meth c H locs cells slots Q1 g) : W p l e R s m args below meth c H locs cells slots Q2 g := by
  intro T hT X
  obtain ⟨t, a, b⟩ := k T hT X
  exact ⟨t, a, h t b⟩
section RTcalls
variable {l : Launch} {s0 : State} {a0 : Array Value} {G : va_G} {ca : Nat → ClassId} {own nm : String} {cc : ByteArray} {nL : Nat} {ret : Option FieldType} {tab : List ExceptionTableEntry} {d : Nat} {w0 w : rt_Wd} {Q : rt_Res → rt_Wd → Prop} {pc : Nat} {lv lv' : List (Nat × Value)} {st : List Value}
theorem rt_fin {below : List Frame} {args : Array Value} {s : State} {H : Heap} {v : Option Value} (hP : rt_P s0 G w H) (h1 : w0.1 ≤ w.1) (h2 : w0.2.1 ≤ w.2.1) (hQ : Q (.inl v) w) : ∀ t, MQ below (fun _ _ o t => o = .returned v ∧ t.heap = H) args s (w.1 - w0.1) (w.2.1 - w0.2.1) (fun q => s0.heap.size ≤ q) t → rt_Fin s0 G w0 Q below s t := by
  rintro t ⟨o, g1, g2, ⟨rfl, g3⟩, L, ⟨-, g4, g5⟩, g6⟩
  exact ⟨_, g1, g2, .inl v, w, L, hQ, rfl, by rw [g3]; exact hP, h1, h2, g4, g5, g6⟩
theorem rt_iret {v : Int32} (hd : decode cc pc = .ok (.ireturn, 1)) (hr : ret = some .int) (hQ : Q (.inl (some (.int v))) w) : rt_Go l s0 G own nm cc nL ret tab d w0 Q pc lv [.int v] w := by
  intro p e s m args below meth c E H locs ls hP h1 h2 hS hl
  exact rt_Wmono (rt_fin hP h1 h2 hQ) (W.iret E.1 E.2.1 (E.2.2.2.1.trans hr) (fun t ht hw => ⟨rfl, ht⟩) hS.2.2 hd E.2.2.2.2.1)
theorem rt_zret {v : Int32} {ty : FieldType} (hd : decode cc pc = .ok (.ireturn, 1)) (hr : ret = some ty) (hn : narrow ty (.int v) = .int v) (hQ : Q (.inl (some (.int v))) w) : rt_Go l s0 G own nm cc nL ret tab d w0 Q pc lv [.int v] w := by
  intro p e s m args below meth c E H locs ls hP h1 h2 hS hl
  exact rt_Wmono (rt_fin hP h1 h2 hQ) (W.zret E.1 E.2.1 (E.2.2.2.1.trans hr) hn (fun t ht hw => ⟨rfl, ht⟩) hS.2.2 hd E.2.2.2.2.1)
theorem rt_lret {v : Int64} (hd : decode cc pc = .ok (.lreturn, 1)) (hr : ret = some .long) (hQ : Q (.inl (some (.long v))) w) : rt_Go l s0 G own nm cc nL ret tab d w0 Q pc lv [.long v] w := by
  intro p e s m args below meth c E H locs ls hP h1 h2 hS hl
  exact rt_Wmono (rt_fin hP h1 h2 hQ) (W.lret E.1 E.2.1 (E.2.2.2.1.trans hr) (fun t ht hw => ⟨rfl, ht⟩) hS.2.2 hd E.2.2.2.2.1)
theorem rt_vret (hd : decode cc pc = .ok (.return_, 1)) (hr : ret = none) (hQ : Q (.inl none) w) : rt_Go l s0 G own nm cc nL ret tab d w0 Q pc lv [] w := by
  intro p e s m args below meth c E H locs ls hP h1 h2 hS hl
  exact rt_Wmono (rt_fin hP h1 h2 hQ) (W.vret E.1 E.2.1 (E.2.2.2.1.trans hr) (fun t ht hw => ⟨rfl, ht⟩) hS.2.2 hd E.2.2.2.2.1)
theorem rt_aret {i : Nat} {n : String} (hd : decode cc pc = .ok (.areturn, 1)) (hr : ret = some (.object n)) (hQ : Q (.inl (some (rt_r s0 i))) w) : rt_Go l s0 G own nm cc nL ret tab d w0 Q pc lv [rt_r s0 i] w := by
  intro p e s m args below meth c E H locs ls hP h1 h2 hS hl
  exact rt_Wmono (rt_fin hP h1 h2 hQ) (W.aret E.1 E.2.1 (E.2.2.2.1.trans hr) (Or.inl ⟨n, rfl⟩) (Or.inr ⟨_, rfl⟩) (fun t ht hw => ⟨rfl, ht⟩) hS.2.2 hd E.2.2.2.2.1)
theorem rt_aretN {n : String} (hd : decode cc pc = .ok (.areturn, 1)) (hr : ret = some (.object n)) (hQ : Q (.inl (some .null)) w) : rt_Go l s0 G own nm cc nL ret tab d w0 Q pc lv [.null] w := by
  intro p e s m args below meth c E H locs ls hP h1 h2 hS hl
  exact rt_Wmono (rt_fin hP h1 h2 hQ) (W.aret E.1 E.2.1 (E.2.2.2.1.trans hr) (Or.inl ⟨n, rfl⟩) (Or.inl rfl) (fun t ht hw => ⟨rfl, ht⟩) hS.2.2 hd E.2.2.2.2.1)
/-- Object.<init> -/
theorem rt_objInit (Γ : rt_Γ l s0 a0 G ca) {index i : Nat} (hd : decode cc pc = .ok (.invokespecial index, 3)) (hw : Cond.methodLink own index Lib.objectInit ∈ lw_tbl) (hw2 : Cond.instanceMethod Lib.objectInit ∈ lw_tbl) (hw3 : Cond.code Lib.objectInit ⟨#[0xb1]⟩ 1 none ∈ lw_tbl) (hst : (st.map fun v => v.category).sum ≤ 12) (kk : rt_Go l s0 G own nm cc nL ret tab d w0 Q (pc + 3) lv st w) : rt_Go l s0 G own nm cc nL ret tab d w0 Q pc lv (rt_r s0 i :: st) w := by
  intro p e s m args below meth c E H locs ls hP h1 h2 hS hl
  have hs := E.2.2.2.2.2.2.2.2.1
  exact W.objInit E.1 E.2.1 E.2.2.2.2.2.2.2.1 (rt_word Γ hw rfl hs args) (rt_word Γ hw2 rfl hs args) (rt_word Γ hw3 rfl hs args) rfl (hl.1.trans E.2.2.1.symm) rfl hd (by show 1 ≤ d + 12; omega) (by show 2 * 0 + (st.map fun v => v.category).sum + 12 ≤ 41 * d + 524; omega) (kk p e s m args below meth c E H locs ls hP h1 h2 hS hl)
/-- a method's contract from its walk -/
theorem rt_met (Γ : rt_Γ l s0 a0 G ca) {y : MethodName} {kc : Cond} {desc : String} (K : rt_Kc y kc cc nL ret tab) (hy : y = ⟨own, nm, desc⟩) {av : List Value} (hlen : (lg_sl av).length ≤ nL) (hlv : lv_args 0 av = lv) (body : rt_Go l s0 G own nm cc nL ret tab d w Q 0 lv [] w) : rt_Met l s0 G kc y d av w Q := by
  refine MetFree.of_bodyS (code := cc) (maxLocals := nL) (ret := ret) K.2.2.2.1 ?_ ?_
  · intro args s m h hn
    obtain ⟨meth, c, h1, h2, h3, h4, h5, h6, -, -⟩ := rt_kc_spec K hn (atoms_spec (ws := [kc]) h _ List.mem_cons_self)
    exact ⟨meth, c, h1, h2, h3, h4, h5, h6⟩
  · intro p e s m args below meth c s₁ B hml hP _
    obtain ⟨rfl, hs, hP⟩ := hP
    have hh0 : s₁.heap = s.heap := by rw [B.state]; rfl
    obtain ⟨meth9, c9, g1, g2, g3, g4, g5, g6, g7, g8⟩ := rt_kc_spec K B.named (atoms_spec (ws := [kc]) B.pre _ List.mem_cons_self)
    cases Option.some.inj (g1.symm.trans B.method)
    cases Option.some.inj (g2.symm.trans (Stand.of_body B).code)
    have hnm : meth.name = nm := by
      have := (name_of_methodNamed B.named B.method).1
      rw [this, hy]
    have hown : s.vm.findClass own = some m.cls := by
      have := findClass_of_methodNamed B.named
      rw [hy] at this
      exact this
    have E : rt_E s0 G own nm cc nL ret tab w p s m meth c := ⟨B.exec, g3, g4, g5, g6, hnm, g7, hown, hs, hP⟩
    have hl := lv_entry av (n := nL) hlen
    rw [hlv] at hl
    have K1 := body p e s m av.toArray below meth c E s.heap [] _ hP (Nat.le_refl _) (Nat.le_refl _) va_S.rf hl
    rw [Nat.sub_self, Nat.sub_self] at K1
    have X₀ : Stand p l e (headSpec [kc] (rt_room w d)).room s m av.toArray below meth c s₁ [] 0 0 := Stand.of_body B
    obtain ⟨t, a1, o, b1, b2, b3⟩ := K1 s₁ hh0 X₀
    rw [← lg_entry_eq] at a1
    exact ⟨t, o, a1, b1, b2, b3⟩
/-- an exception leaves the method -/
theorem rt_out {X : String} (hout : ∀ x ∈ tab, covers x pc = false) (hQ : Q (.inr X) w) : rt_Tx l s0 G own nm cc nL ret tab d w0 Q pc lv X w := by
  intro p e s m args below meth c E H locs ls rest q ce hP h1 h2 hS hl hce hcv hcl T hT Y
  obtain ⟨st1, hrun, hend, hW, hsm⟩ := Y.leaveThrown q (g := F0 m pc ls rest) rfl rfl rfl (by rw [E.2.2.2.2.2.2.1]; exact hout) E.2.2.2.2.1
  exact ⟨_, st1, .threw q, hrun, hend, .inr X, w, locs, hQ, ⟨q, ce, rfl, by show T.heap[q]? = some ce; rw [hT]; exact hce, hcv, hcl⟩, by show rt_P s0 G w T.heap; rw [hT]; exact hP, h1, h2, hW, hsm, hS.2.2⟩
/-- a handler takes it -/
theorem rt_catch (Γ : rt_Γ l s0 a0 G ca) {X name : String} (pre : List ExceptionTableEntry) (x : ExceptionTableEntry) (suf : List ExceptionTableEntry) (hsplit : tab = pre ++ x :: suf) (hpass : ∀ z ∈ pre, covers z pc = false) (hx : covers x pc = true) (h0 : x.catchType ≠ 0) (hlink : Cond.classLink own x.catchType name ∈ lw_tbl) (hcast : Cond.castable X name ∈ lw_tbl)
    (kk : ∀ q : Nat, rt_Go l s0 G own nm cc nL ret tab d w0 Q x.handlerPc lv [.ref q] w) : rt_Tx l s0 G own nm cc nL ret tab d w0 Q pc lv X w := by
  intro p e s m args below meth c E H locs ls rest q ce hP h1 h2 hS hl hce hcv hcl
  have hs := E.2.2.2.2.2.2.2.2.1
  exact vx_catch (own := own) (name := name) E.2.2.2.2.2.2.2.1 pre x suf (by rw [E.2.2.2.2.2.2.1]; exact hsplit) (fun z hz => Or.inl (hpass z hz)) hx h0 (rt_word Γ hlink rfl hs args) (va_Nw.use rfl (va_Nw.warmC hs (va_Nw.of rfl (Γ.2.1 _ hcast)))) hce hcv hcl (kk q p e s m args below meth c E H locs ls hP h1 h2 hS hl)
/-- a handler ahead of it, of another class, lets it pass -/
theorem rt_catch2 (Γ : rt_Γ l s0 a0 G ca) {X name : String} (pre : List ExceptionTableEntry) (x : ExceptionTableEntry) (suf : List ExceptionTableEntry) (hsplit : tab = pre ++ x :: suf) (hpass : ∀ z ∈ pre, covers z pc = false ∨ (z.catchType ≠ 0 ∧ ∃ n9 : String, Cond.classLink own z.catchType n9 ∈ lw_tbl ∧ va_Nc X n9 s0)) (hx : covers x pc = true) (h0 : x.catchType ≠ 0) (hlink : Cond.classLink own x.catchType name ∈ lw_tbl) (hcast : Cond.castable X name ∈ lw_tbl)
    (kk : ∀ q : Nat, rt_Go l s0 G own nm cc nL ret tab d w0 Q x.handlerPc lv [.ref q] w) : rt_Tx l s0 G own nm cc nL ret tab d w0 Q pc lv X w := by
  intro p e s m args below meth c E H locs ls rest q ce hP h1 h2 hS hl hce hcv hcl
  have hs := E.2.2.2.2.2.2.2.2.1
  refine vx_catch (own := own) (name := name) E.2.2.2.2.2.2.2.1 pre x suf (by rw [E.2.2.2.2.2.2.1]; exact hsplit) (fun z hz => ?_) hx h0 (rt_word Γ hlink rfl hs args) (va_Nw.use rfl (va_Nw.warmC hs (va_Nw.of rfl (Γ.2.1 _ hcast)))) hce hcv hcl (kk q p e s m args below meth c E H locs ls hP h1 h2 hS hl)
  rcases hpass z hz with h | ⟨hz0, n9, hl9, hn9⟩
  · exact Or.inl h
  · exact Or.inr ⟨hz0, n9, rt_word Γ hl9 rfl hs args, va_Nc.moved hs.alike hn9⟩
end RTcalls
