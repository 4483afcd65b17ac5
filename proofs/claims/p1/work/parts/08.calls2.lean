/-! ===== calls ===== -/
section RTc2
variable {l : Launch} {s0 : State} {a0 : Array Value} {G : va_G} {ca : Nat → ClassId} {own nm : String} {cc : ByteArray} {nL : Nat} {ret : Option FieldType} {tab : List ExceptionTableEntry} {d : Nat} {w0 w : rt_Wd} {Q : rt_Res → rt_Wd → Prop} {pc : Nat} {lv lv' : List (Nat × Value)} {st : List Value}
/-- what a call gives back to the walk -/
def rt_Bk (p : Program) (l : Launch) (e : Env) (R : Room) (s0 s : State) (G : va_G) (m : MethodId) (args : Array Value) (below : List Frame) (meth : Method) (c : Code) (w0 w : rt_Wd) (H : Heap) (locs : List Loc) (Q1 : rt_Res → rt_Wd → Prop) (g : JFrame) (src : State) : Prop :=
  ∃ (r : rt_Res) (w1 : rt_Wd) (U' : State) (L : List Loc), Q1 r w1 ∧ rt_P s0 G w1 U'.heap ∧ w.1 ≤ w1.1 ∧ w.2.1 ≤ w1.2.1 ∧ Stand p l e R s m args below meth c U' (locs ++ L) (w1.1 - w0.1) (w1.2.1 - w0.2.1) ∧ (∀ z ∈ L, s0.heap.size ≤ z.base) ∧
    match r with
    | .inl v => Steps p.tables e below src (U'.setTop { g with pc := g.pc + 3, stack := v.toList ++ g.stack })
    | .inr X => ∃ (q : Addr) (ce : Cell), U'.heap[q]? = some ce ∧ ce.vm = .none ∧ s.vm.findClass X = some ce.cls ∧ Steps p.tables e below src ((U'.setTop g).pushFrame (.throwing q))
theorem rt_back (Γ : rt_Γ l s0 a0 G ca) {y : MethodName} {kc : Cond} {ccY : ByteArray} {nLY : Nat} {retY : Option FieldType} {tabY : List ExceptionTableEntry} (K : rt_Kc y kc ccY nLY retY tabY) {d1 : Nat} {av : List Value} {Q1 : rt_Res → rt_Wd → Prop} (hM : rt_Met l s0 G kc y d1 av w Q1) (hd1 : d1 + 1 ≤ d) (hnL : nLY ≤ 18)
    {p : Program} {e : Env} {s : State} {m : MethodId} {args : Array Value} {below : List Frame} {meth : Method} {c : Code} {H : Heap} {locs : List Loc} (E : rt_E s0 G own nm cc nL ret tab w0 p s m meth c) (hP : rt_P s0 G w H) (g1 : w0.1 ≤ w.1) (g2 : w0.2.1 ≤ w.2.1) {U : State} (hUH : U.heap = H)
    (X : Stand p l e (rt_room w0 d) s m args below meth c U locs (w.1 - w0.1) (w.2.1 - w0.2.1)) {g : JFrame} {ig : Instr} (hg : g.method = m) (hsize : g.locals.size = c.maxLocals) (hdg : decode c.code g.pc = .ok (ig, 3)) (hW : 2 * g.monitorRoom + (g.stack.map fun v => v.category).sum ≤ 12) {mk : MethodId} (hn : U.methodNamed? y = some mk)
    (hr : w.1 ≤ 600000 ∧ w.2.1 ≤ 7300000) : rt_Bk p l e (rt_room w0 d) s0 s G m args below meth c w0 w H locs Q1 g (doInvoke e (U.setTop g) [] mk av.toArray).1 := by
  have hsU : s0.WarmedH U.vm := State.WarmedH.trans E.2.2.2.2.2.2.2.2.1 X.warmed
  have hkc : kc.before av.toArray U = true := rt_word Γ K.1 K.2.1 hsU _
  have h1 : (headSpec [kc] (rt_room w d1)).pre.before av.toArray U = true := atoms_intro fun w hw => by rw [List.mem_singleton.mp hw]; exact hkc
  have h3 : (Cond.initialized y.cls).before av.toArray U = true := rt_word Γ K.2.2.2.2.1 rfl hsU _
  obtain ⟨methY, cY, hmY, hcY, -, hlY, -, -, -, -⟩ := rt_kc_spec K hn hkc
  obtain ⟨kY, hkY, -⟩ := className_of_methodNamed hn
  have hinitY : kY.init = .initialized := Cond.initialized_spec (findClass_of_methodNamed hn) hkY h3
  have h : At U g.method c below := by rw [hg]; exact X.here
  have happ : (headSpec [kc] (rt_room w d1)).appliesLoose y e.platform (U.calling g mk av.toArray) = true :=
    Spec.appliesLoose_calling (g := g) h hdg hn hkY hinitY
      (X.room_calling (g := g) (R' := (headSpec [kc] (rt_room w d1)).room) hsize hmY hcY (by show d1 + 12 + 1 ≤ d + 12; omega) (by show _ + (41 * d1 + 524) ≤ 41 * d + 524; rw [hlY]; omega) (by show w.1 - w0.1 + (600000 - w.1) ≤ 600000 - w0.1; omega) (by show w.2.1 - w0.2.1 + (7300000 - w.2.1) ≤ 7300000 - w0.2.1; omega)) h1
  have hPc : av.toArray = av.toArray ∧ s0.WarmedH (U.calling g mk av.toArray).vm ∧ rt_P s0 G w (U.calling g mk av.toArray).heap := ⟨rfl, hsU, by show rt_P s0 G w U.heap; rw [hUH]; exact hP⟩
  obtain ⟨mid, hmid⟩ := h.above
  have hfr : (U.setTop g).frames = (.java g :: mid) ++ below := by rw [State.frames_setTop' g h.top, hmid]; rfl
  obtain ⟨o, s₂, hsteps, -, hend, hq⟩ := Steps.callFree hM p X.admits X.cas X.clock (acts := []) hfr happ hPc trivial
  have hq' : rt_End s0 G w Q1 (U.calling g mk av.toArray) o s₂ := hq
  rw [State.frames_setTop' g h.top] at hend
  obtain ⟨g₀, hg0⟩ := Option.isSome_iff_exists.mp h.top
  obtain ⟨rr, hrr⟩ := State.topJava?_eq_some.mp hg0
  have hr' : (({ U with heap := s₂.heap, slotsUsed := s₂.slotsUsed } : State).setVm s₂.vm).frames = .java g₀ :: rr := hrr
  obtain ⟨r, w1, L, hQ1, hO, hP1, k1, k2, hW₂, hsm, hL⟩ := hq'
  obtain ⟨e2, q2, q3, q4, q5, q6⟩ := id hsm
  have e3 : s₂ = ({ (U.calling g mk av.toArray).setFrames s₂.frames with heap := s₂.heap, slotsUsed := s₂.slotsUsed } : State).setVm s₂.vm := by
    have : s₂ = ({ s₂ with vm := (U.calling g mk av.toArray).vm } : State).setVm s₂.vm := rfl
    rw [e2] at this
    exact this
  have hW' : U.WarmedH s₂.vm := hW₂
  have hsame : U.sameButNew ({ U with heap := s₂.heap, slotsUsed := s₂.slotsUsed } : State) L (w1.1 - w.1) (w1.2.1 - w.2.1) := by
    refine ⟨?_, q2, q3, q4, q5, q6⟩
    obtain ⟨t, ht, -⟩ := State.frames_cons hrr
    show ({ U with heap := s₂.heap, slotsUsed := s₂.slotsUsed } : State) = { U.setFrames U.frames with heap := s₂.heap, slotsUsed := s₂.slotsUsed }
    rw [State.setFrames_self ht]
  subst hg
  have Y : Stand p l e (rt_room w0 d) s g.method args below meth c (({ U with heap := s₂.heap, slotsUsed := s₂.slotsUsed } : State).setVm s₂.vm) (locs ++ L) (w1.1 - w0.1) (w1.2.1 - w0.2.1) := by
    have Y0 : Stand p l e (rt_room w0 d) s g.method args below meth c (({ U with heap := s₂.heap, slotsUsed := s₂.slotsUsed } : State).setVm s₂.vm) (locs ++ L) (w.1 - w0.1 + (w1.1 - w.1)) (w.2.1 - w0.2.1 + (w1.2.1 - w.2.1)) :=
      ⟨X.admits, X.cas, X.clock, X.frames, X.room, X.hears, X.method, X.code, (X.here.setHeapUsed s₂.heap s₂.slotsUsed).setVm hW'.alike, X.tail, State.WarmedH.trans X.warmed hW', X.limits, X.bytes, X.same.trans (hsame.setVm s.vm)⟩
    rw [show w.1 - w0.1 + (w1.1 - w.1) = w1.1 - w0.1 by omega, show w.2.1 - w0.2.1 + (w1.2.1 - w.2.1) = w1.2.1 - w0.2.1 by omega] at Y0
    exact Y0
  refine ⟨r, w1, (({ U with heap := s₂.heap, slotsUsed := s₂.slotsUsed } : State).setVm s₂.vm), L, hQ1, hP1, k1, k2, Y, hL, ?_⟩
  cases r with
  | inl v =>
    have hO' : o = .returned v := hO
    subst hO'
    obtain ⟨c₂, i₂, len₂, hc₂, hd₂, hf₂⟩ := hend
    have hcc : c₂ = c := by
      have h1 : s₂.code? g.method = U.code? g.method := by
        rw [State.code?_eq, State.code?_eq, hW'.alike.method?]
      exact Option.some.inj (hc₂.symm.trans (h1.trans h.code))
    subst hcc
    have hlen : len₂ = 3 := by rw [hdg] at hd₂; cases hd₂; rfl
    subst hlen
    have hs₂ : s₂ = (({ U with heap := s₂.heap, slotsUsed := s₂.slotsUsed } : State).setVm s₂.vm).setTop { g with pc := g.pc + 3, stack := v.toList ++ g.stack } := by
      refine e3.trans ?_
      rw [hf₂, State.calling_eq h.top, State.setFrames_setFrames, State.setTop_of_frames _ hr', hrr]
      rfl
    show Steps p.tables e below _ ((({ U with heap := s₂.heap, slotsUsed := s₂.slotsUsed } : State).setVm s₂.vm).setTop { g with pc := g.pc + 3, stack := v.toList ++ g.stack })
    rw [← hs₂]
    exact hsteps
  | inr XX =>
    obtain ⟨q, ce, hO1, hce, hcv, hcl⟩ := hO
    subst hO1
    have hf₂ : s₂.frames = .throwing q :: .java g :: U.frames.tail := hend
    have hs₂ : s₂ = ((({ U with heap := s₂.heap, slotsUsed := s₂.slotsUsed } : State).setVm s₂.vm).setTop g).pushFrame (.throwing q) := by
      refine e3.trans ?_
      rw [hf₂, State.calling_eq h.top, State.setFrames_setFrames, State.pushFrame, State.frames_setTop _ hr', State.setTop_of_frames _ hr', State.setFrames_setFrames, hrr]
      rfl
    refine ⟨q, ce, hce, hcv, ?_, ?_⟩
    · have h9 : U.vm.findClass XX = some ce.cls := hcl
      rw [X.warmed.alike.findClass] at h9
      exact h9
    · show Steps p.tables e below _ (((({ U with heap := s₂.heap, slotsUsed := s₂.slotsUsed } : State).setVm s₂.vm).setTop g).pushFrame (.throwing q))
      rw [← hs₂]
      exact hsteps
/-- from what the call gives back, the walk goes on -/
theorem rt_bk_go {p : Program} {e : Env} {s : State} {m : MethodId} {args : Array Value} {below : List Frame} {meth : Method} {c : Code} {H : Heap} {locs : List Loc} {ls : Array Slot} {Q1 : rt_Res → rt_Wd → Prop} (E : rt_E s0 G own nm cc nL ret tab w0 p s m meth c) (g1 : w0.1 ≤ w.1) (g2 : w0.2.1 ≤ w.2.1) (hS : va_S (fun q => s0.heap.size ≤ q) s.heap H locs) (hHw : H.size = s0.heap.size + w.1) (hl : lv_has ls nL lv) {src : State}
    (B : rt_Bk p l e (rt_room w0 d) s0 s G m args below meth c w0 w H locs Q1 (F0 m pc ls st) src)
    (kr : ∀ (v : Option Value) (w1 : rt_Wd), Q1 (.inl v) w1 → rt_Go l s0 G own nm cc nL ret tab d w0 Q (pc + 3) lv (v.toList ++ st) w1)
    (kx : ∀ (X : String) (w1 : rt_Wd), Q1 (.inr X) w1 → rt_Tx l s0 G own nm cc nL ret tab d w0 Q pc lv X w1) :
    ∃ t, Steps p.tables e below src t ∧ rt_Fin s0 G w0 Q below s t := by
  obtain ⟨r, w1, U', L, hQ1, hP1, k1, k2, Y, hL, hst⟩ := B
  have hz : s.heap.size ≤ U'.heap.size := Nat.le_trans hS.1 (by rw [hHw, hP1.1]; omega)
  have hS1 : va_S (fun q => s0.heap.size ≤ q) s.heap U'.heap (locs ++ L) := by
    refine ⟨hz, fun q q1 q2 => ?_, fun x hx => ?_⟩
    · have q3 : q < s0.heap.size := Nat.not_le.mp q2
      rw [hP1.2.1 q q3, E.2.2.2.2.2.2.2.2.2.2.1 q q3]
    · rcases List.mem_append.mp hx with h | h
      · exact hS.2.2 x h
      · exact hL x h
  cases r with
  | inl v =>
    obtain ⟨t, a, b⟩ := kr v w1 hQ1 p e s m args below meth c E U'.heap (locs ++ L) ls hP1 (Nat.le_trans g1 k1) (Nat.le_trans g2 k2) hS1 hl U' rfl Y
    exact ⟨t, Steps.trans hst a, b⟩
  | inr X =>
    obtain ⟨q, ce, hce, hcv, hcl, hst⟩ := hst
    obtain ⟨t, a, b⟩ := kx X w1 hQ1 p e s m args below meth c E U'.heap (locs ++ L) ls st q ce hP1 (Nat.le_trans g1 k1) (Nat.le_trans g2 k2) hS1 hl hce hcv hcl U' rfl Y
    exact ⟨t, Steps.trans hst a, b⟩
theorem rt_callV (Γ : rt_Γ l s0 a0 G ca) {y : MethodName} {kc : Cond} {ccY : ByteArray} {nLY : Nat} {retY : Option FieldType} {tabY : List ExceptionTableEntry} (K : rt_Kc y kc ccY nLY retY tabY) {index ci : Nat} {C : String} {T : u_T} {N : Nat} {fs : List Value} {i : Nat} (C9 : rt_Cv own index C y) {d1 : Nat} {av : List Value} {Q1 : rt_Res → rt_Wd → Prop} (hM : rt_Met l s0 G kc y d1 av w Q1) (hd1 : d1 + 1 ≤ d) (hnL : nLY ≤ 18) {As : List Value} {stk : List Value} (hlen : (parseMethodDescriptor y.desc).map (fun q => q.parameters.length) = some As.length) (hr : w.1 ≤ 600000 ∧ w.2.1 ≤ 7300000) (hW : (st.map fun v => v.category).sum ≤ 12) (hd : decode cc pc = .ok (.invokevirtual index, 3)) (hcell : w.2.2 i = some (.inr (ci, fs))) (hci : vwCl[ci]? = some (C, T, N)) (hav : av = rt_r s0 i :: As) (hstk : stk = As.reverse ++ rt_r s0 i :: st)
    (kr : ∀ (v : Option Value) (w1 : rt_Wd), Q1 (.inl v) w1 → rt_Go l s0 G own nm cc nL ret tab d w0 Q (pc + 3) lv (v.toList ++ st) w1) (kx : ∀ (X : String) (w1 : rt_Wd), Q1 (.inr X) w1 → rt_Tx l s0 G own nm cc nL ret tab d w0 Q pc lv X w1) : rt_Go l s0 G own nm cc nL ret tab d w0 Q pc lv stk w := by
  intro p e s m args below meth c E H locs ls hP h1 h2 hS hl T0 hT X
  subst hav
  subst hstk
  have hs := E.2.2.2.2.2.2.2.2.1
  have hx := E.1
  have hb := E.2.1
  have hown := E.2.2.2.2.2.2.2.1
  have hkc : kc.before args s = true := rt_word Γ K.1 K.2.1 hs args
  obtain ⟨mk, methM, hnamed, hmethM, hstM, habM⟩ := Cond.instanceMethod_spec (rt_word Γ C9.2.1 rfl hs args)
  obtain ⟨methM', cM, hmethM', -, -, -, -, -, -, hsigM⟩ := rt_kc_spec K hnamed hkc
  cases hmethM.symm.trans hmethM'
  obtain ⟨c2, r2, m2, q1, q2, q3, q4, kP, hkP, hkPi⟩ := Cond.selects_spec (rt_word Γ C9.2.2.1 C9.2.2.2 hs args)
  obtain ⟨r9, hr9, cellB, y1, y2, y3, -⟩ := hP.2.2 i _ hcell
  cases Option.some.inj (hr9.symm.trans hci)
  have hcls : s.vm.findClass C = some cellB.cls := by rw [y2]; exact ((rt_K Γ hs).1 ci _ hci).2.1
  cases hcls.symm.trans q1
  cases (State.methodFound?_of_named hnamed K.2.2.2.2.2).symm.trans q2
  cases hnamed.symm.trans q3
  have hselP : selectMethod e.platform s.vm cellB.cls mk = .method mk := by rw [Launch.admits_selectMethod X.admits]; exact q4
  have hlen9 : As.length = methM.sig.parameters.length := by
    rw [hsigM] at hlen
    exact (Option.some.inj hlen).symm
  obtain ⟨vm₁, X₁, hstep₁⟩ := X.invokevirtual hx hown (rt_word Γ C9.1 rfl hs args) hnamed hmethM hstM hkP hkPi K.2.2.2.2.2 (a := s0.heap.size + i) (cell := cellB) (by rw [hT]; exact y1)
    (fun z h => by rw [h] at y3; cases y3) hselP hmethM habM hkP hkPi (g := F0 m pc ls (As.reverse ++ rt_r s0 i :: st)) rfl (argsL := As) (rest := st) hlen9 rfl (by rw [hb]; exact hd)
  have B := rt_back Γ K hM hd1 hnL E hP h1 h2 (U := T0.setVm vm₁) hT X₁ (g := F0 m pc ls st) (ig := .invokevirtual index) rfl (hl.1.trans E.2.2.1.symm) (by rw [hb]; exact hd) (by show 2 * 0 + (st.map fun v => v.category).sum ≤ 12; omega) (X₁.named hnamed) hr
  obtain ⟨t, a, b⟩ := rt_bk_go E h1 h2 hS hP.1 hl B kr kx
  exact ⟨t, hstep₁ _ fun acts => by rw [doInvoke_state]; exact a, b⟩
theorem rt_callI (Γ : rt_Γ l s0 a0 G ca) {y : MethodName} {kc : Cond} {ccY : ByteArray} {nLY : Nat} {retY : Option FieldType} {tabY : List ExceptionTableEntry} (K : rt_Kc y kc ccY nLY retY tabY) {index i : Nat} (C9 : rt_Ci own index y) {d1 : Nat} {av : List Value} {Q1 : rt_Res → rt_Wd → Prop} (hM : rt_Met l s0 G kc y d1 av w Q1) (hd1 : d1 + 1 ≤ d) (hnL : nLY ≤ 18) {As : List Value} {stk : List Value} (hlen : (parseMethodDescriptor y.desc).map (fun q => q.parameters.length) = some As.length) (hr : w.1 ≤ 600000 ∧ w.2.1 ≤ 7300000) (hW : (st.map fun v => v.category).sum ≤ 12) (hk0 : kc = .code y ccY nLY none) (hd : decode cc pc = .ok (.invokespecial index, 3)) (hav : av = rt_r s0 i :: As) (hstk : stk = As.reverse ++ rt_r s0 i :: st)
    (kr : ∀ (v : Option Value) (w1 : rt_Wd), Q1 (.inl v) w1 → rt_Go l s0 G own nm cc nL ret tab d w0 Q (pc + 3) lv (v.toList ++ st) w1) (kx : ∀ (X : String) (w1 : rt_Wd), Q1 (.inr X) w1 → rt_Tx l s0 G own nm cc nL ret tab d w0 Q pc lv X w1) : rt_Go l s0 G own nm cc nL ret tab d w0 Q pc lv stk w := by
  intro p e s m args below meth c E H locs ls hP h1 h2 hS hl T0 hT X
  subst hav
  subst hstk
  have hs := E.2.2.2.2.2.2.2.2.1
  have hb := E.2.1
  have hown := E.2.2.2.2.2.2.2.1
  have hpl : e.platform.magicAccessors = ({} : Platform).magicAccessors := by rw [X.admits.platform]
  have hkc : (Cond.code y ccY nLY none).before args s = true := by rw [← hk0]; exact rt_word Γ K.1 K.2.1 hs args
  obtain ⟨mk, methM, cM, kP, vm₁, hnamed, hmethM, hcodeM, -, hlocalsM, -, hkP, -, hW₁, hstep₁⟩ := Steps.initColdArgs (e := e) X.here E.1 X.warmed hpl hown C9.2.2 K.2.2.2.2.2 (rt_word Γ C9.1 rfl hs args) (rt_word Γ C9.2.1 rfl hs args) hkc (f := F0 m pc ls (As.reverse ++ rt_r s0 i :: st)) rfl (fun sig h => by rw [h] at hlen; exact (Option.some.inj hlen).symm) rfl (by rw [hb]; exact hd)
  have X₁ := X.noted hW₁
  have B := rt_back Γ K hM hd1 hnL E hP h1 h2 (U := T0.setVm vm₁) hT X₁ (g := F0 m pc ls st) (ig := .invokespecial index) rfl (hl.1.trans E.2.2.1.symm) (by rw [hb]; exact hd) (by show 2 * 0 + (st.map fun v => v.category).sum ≤ 12; omega) (X₁.named hnamed) hr
  obtain ⟨t, a, b⟩ := rt_bk_go E h1 h2 hS hP.1 hl B kr kx
  exact ⟨t, hstep₁ _ fun acts => by rw [doInvoke_state]; exact a, b⟩
theorem rt_callVN (Γ : rt_Γ l s0 a0 G ca) {y : MethodName} {kc : Cond} {ccY : ByteArray} {nLY : Nat} {retY : Option FieldType} {tabY : List ExceptionTableEntry} (K : rt_Kc y kc ccY nLY retY tabY) {index ci : Nat} {C : String} {T : u_T} {N : Nat} {fs : List Value} {i : Nat} (C9 : rt_CvN own index C y) {d1 : Nat} {av : List Value} {Q1 : rt_Res → rt_Wd → Prop} (hM : rt_Met l s0 G kc y d1 av w Q1) (hd1 : d1 + 1 ≤ d) (hnL : nLY ≤ 18) {As : List Value} {stk : List Value} (hlen : (parseMethodDescriptor y.desc).map (fun q => q.parameters.length) = some As.length) (hr : w.1 ≤ 600000 ∧ w.2.1 ≤ 7300000) (hW : (st.map fun v => v.category).sum ≤ 12) (hd : decode cc pc = .ok (.invokevirtual index, 3)) (hcell : w.2.2 i = some (.inr (ci, fs))) (hci : vwCl[ci]? = some (C, T, N)) (hav : av = rt_r s0 i :: As) (hstk : stk = As.reverse ++ rt_r s0 i :: st)
    (kr : ∀ (v : Option Value) (w1 : rt_Wd), Q1 (.inl v) w1 → rt_Go l s0 G own nm cc nL ret tab d w0 Q (pc + 3) lv (v.toList ++ st) w1) (kx : ∀ (X : String) (w1 : rt_Wd), Q1 (.inr X) w1 → rt_Tx l s0 G own nm cc nL ret tab d w0 Q pc lv X w1) : rt_Go l s0 G own nm cc nL ret tab d w0 Q pc lv stk w := by
  intro p e s m args below meth c E H locs ls hP h1 h2 hS hl T0 hT X
  subst hav
  subst hstk
  have hs := E.2.2.2.2.2.2.2.2.1
  have hx := E.1
  have hb := E.2.1
  have hown := E.2.2.2.2.2.2.2.1
  have hkc : kc.before args s = true := rt_word Γ K.1 K.2.1 hs args
  obtain ⟨mk, methM, hnamed, hmethM, hstM, habM⟩ := Cond.instanceMethod_spec (rt_word Γ C9.2.1 rfl hs args)
  obtain ⟨methM', cM, hmethM', -, -, -, -, -, -, hsigM⟩ := rt_kc_spec K hnamed hkc
  cases hmethM.symm.trans hmethM'
  obtain ⟨c2, r2, m2, q1, q2, q3, q4, kP, hkP, hkPi⟩ := Cond.selects_spec (rt_word Γ C9.2.2.1 C9.2.2.2 hs args)
  obtain ⟨r9, hr9, cellB, y1, y2, y3, -⟩ := hP.2.2 i _ hcell
  cases Option.some.inj (hr9.symm.trans hci)
  have hcls : s.vm.findClass C = some cellB.cls := by rw [y2]; exact ((rt_K Γ hs).1 ci _ hci).2.1
  cases hcls.symm.trans q1
  cases (State.methodFound?_of_named hnamed K.2.2.2.2.2).symm.trans q2
  cases hnamed.symm.trans q3
  have hselP : selectMethod e.platform s.vm cellB.cls mk = .method mk := by rw [Launch.admits_selectMethod X.admits]; exact q4
  have hlen9 : As.length = methM.sig.parameters.length := by
    rw [hsigM] at hlen
    exact (Option.some.inj hlen).symm
  obtain ⟨vm₁, X₁, hstep₁⟩ := X.invokevirtualNest hx hown (va_Nw.use rfl (va_Nw.warmM hs (va_Nw.of rfl (Γ.2.1 _ C9.1.choose_spec)))) hnamed hmethM hstM hkP hkPi K.2.2.2.2.2 (a := s0.heap.size + i) (cell := cellB) (by rw [hT]; exact y1)
    (fun z h => by rw [h] at y3; cases y3) hselP hmethM habM hkP hkPi (g := F0 m pc ls (As.reverse ++ rt_r s0 i :: st)) rfl (argsL := As) (rest := st) hlen9 rfl (by rw [hb]; exact hd)
  have B := rt_back Γ K hM hd1 hnL E hP h1 h2 (U := T0.setVm vm₁) hT X₁ (g := F0 m pc ls st) (ig := .invokevirtual index) rfl (hl.1.trans E.2.2.1.symm) (by rw [hb]; exact hd) (by show 2 * 0 + (st.map fun v => v.category).sum ≤ 12; omega) (X₁.named hnamed) hr
  obtain ⟨t, a, b⟩ := rt_bk_go E h1 h2 hS hP.1 hl B kr kx
  exact ⟨t, hstep₁ _ fun acts => by rw [doInvoke_state]; exact a, b⟩
theorem rt_callIN (Γ : rt_Γ l s0 a0 G ca) {y : MethodName} {kc : Cond} {ccY : ByteArray} {nLY : Nat} {retY : Option FieldType} {tabY : List ExceptionTableEntry} (K : rt_Kc y kc ccY nLY retY tabY) {index i : Nat} (C9 : rt_CiN own index y) {d1 : Nat} {av : List Value} {Q1 : rt_Res → rt_Wd → Prop} (hM : rt_Met l s0 G kc y d1 av w Q1) (hd1 : d1 + 1 ≤ d) (hnL : nLY ≤ 18) {As : List Value} {stk : List Value} (hlen : (parseMethodDescriptor y.desc).map (fun q => q.parameters.length) = some As.length) (hr : w.1 ≤ 600000 ∧ w.2.1 ≤ 7300000) (hW : (st.map fun v => v.category).sum ≤ 12) (hk0 : kc = .code y ccY nLY none) (hd : decode cc pc = .ok (.invokespecial index, 3)) (hav : av = rt_r s0 i :: As) (hstk : stk = As.reverse ++ rt_r s0 i :: st)
    (kr : ∀ (v : Option Value) (w1 : rt_Wd), Q1 (.inl v) w1 → rt_Go l s0 G own nm cc nL ret tab d w0 Q (pc + 3) lv (v.toList ++ st) w1) (kx : ∀ (X : String) (w1 : rt_Wd), Q1 (.inr X) w1 → rt_Tx l s0 G own nm cc nL ret tab d w0 Q pc lv X w1) : rt_Go l s0 G own nm cc nL ret tab d w0 Q pc lv stk w := by
  intro p e s m args below meth c E H locs ls hP h1 h2 hS hl T0 hT X
  subst hav
  subst hstk
  have hs := E.2.2.2.2.2.2.2.2.1
  have hb := E.2.1
  have hown := E.2.2.2.2.2.2.2.1
  have hpl : e.platform.magicAccessors = ({} : Platform).magicAccessors := by rw [X.admits.platform]
  have hkc : (Cond.code y ccY nLY none).before args s = true := by rw [← hk0]; exact rt_word Γ K.1 K.2.1 hs args
  obtain ⟨mk, methM, cM, kP, vm₁, hnamed, hmethM, hcodeM, -, hlocalsM, -, hkP, -, hW₁, hstep₁⟩ := Steps.initColdArgsNest (e := e) X.here E.1 X.warmed hpl hown C9.2.2 K.2.2.2.2.2 (va_Nw.use rfl (va_Nw.warmM hs (va_Nw.of rfl (Γ.2.1 _ C9.1.choose_spec)))) (rt_word Γ C9.2.1 rfl hs args) hkc (f := F0 m pc ls (As.reverse ++ rt_r s0 i :: st)) rfl (fun sig h => by rw [h] at hlen; exact (Option.some.inj hlen).symm) rfl (by rw [hb]; exact hd)
  have X₁ := X.noted hW₁
  have B := rt_back Γ K hM hd1 hnL E hP h1 h2 (U := T0.setVm vm₁) hT X₁ (g := F0 m pc ls st) (ig := .invokespecial index) rfl (hl.1.trans E.2.2.1.symm) (by rw [hb]; exact hd) (by show 2 * 0 + (st.map fun v => v.category).sum ≤ 12; omega) (X₁.named hnamed) hr
  obtain ⟨t, a, b⟩ := rt_bk_go E h1 h2 hS hP.1 hl B kr kx
  exact ⟨t, hstep₁ _ fun acts => by rw [doInvoke_state]; exact a, b⟩
theorem rt_callS (Γ : rt_Γ l s0 a0 G ca) {y : MethodName} {kc : Cond} {ccY : ByteArray} {nLY : Nat} {retY : Option FieldType} {tabY : List ExceptionTableEntry} (K : rt_Kc y kc ccY nLY retY tabY) {index : Nat} (C9 : rt_Cs own index y) {d1 : Nat} {av : List Value} {Q1 : rt_Res → rt_Wd → Prop} (hM : rt_Met l s0 G kc y d1 av w Q1) (hd1 : d1 + 1 ≤ d) (hnL : nLY ≤ 18) {As : List Value} {stk : List Value} (hlen : (parseMethodDescriptor y.desc).map (fun q => q.parameters.length) = some As.length) (hr : w.1 ≤ 600000 ∧ w.2.1 ≤ 7300000) (hW : (st.map fun v => v.category).sum ≤ 12) (hd : decode cc pc = .ok (.invokestatic index, 3)) (hav : av = As) (hstk : stk = As.reverse ++ st)
    (kr : ∀ (v : Option Value) (w1 : rt_Wd), Q1 (.inl v) w1 → rt_Go l s0 G own nm cc nL ret tab d w0 Q (pc + 3) lv (v.toList ++ st) w1) (kx : ∀ (X : String) (w1 : rt_Wd), Q1 (.inr X) w1 → rt_Tx l s0 G own nm cc nL ret tab d w0 Q pc lv X w1) : rt_Go l s0 G own nm cc nL ret tab d w0 Q pc lv stk w := by
  intro p e s m args below meth c E H locs ls hP h1 h2 hS hl T0 hT X
  subst hav
  subst hstk
  have hs := E.2.2.2.2.2.2.2.2.1
  have hb := E.2.1
  have hown := E.2.2.2.2.2.2.2.1
  have hkc : kc.before args s = true := rt_word Γ K.1 K.2.1 hs args
  obtain ⟨mk, hnamed⟩ : ∃ mk, s.methodNamed? y = some mk := by
    rcases K.2.2.1 with ⟨h9, -⟩ | ⟨hh, h9, -⟩
    · rw [h9] at hkc; exact Cond.code_named hkc
    · rw [h9] at hkc
      obtain ⟨m9, -, -, hn9, -⟩ := Cond.codeWith_spec hkc
      exact ⟨m9, hn9⟩
  obtain ⟨methM, cM, hmethM, -, -, -, -, -, -, hsigM⟩ := rt_kc_spec K hnamed hkc
  have hstatic : methM.isStatic = true := Cond.static_spec hnamed hmethM (rt_word Γ C9.2 rfl hs args)
  obtain ⟨kP, hkP, -⟩ := className_of_methodNamed hnamed
  have hinitP : kP.init = .initialized := Cond.initialized_spec (findClass_of_methodNamed hnamed) hkP (rt_word Γ K.2.2.2.2.1 rfl hs args)
  have hlen9 : av.length = methM.sig.parameters.length := by
    rw [hsigM] at hlen
    exact (Option.some.inj hlen).symm
  obtain ⟨vm₁, X₁, hstep₁⟩ := X.invokestatic E.1 hown (rt_word Γ C9.1 rfl hs args) hnamed hmethM hstatic hkP hinitP K.2.2.2.2.2 (g := F0 m pc ls (av.reverse ++ st)) rfl (argsL := av) (rest := st) hlen9 rfl (by rw [hb]; exact hd)
  have B := rt_back Γ K hM hd1 hnL E hP h1 h2 (U := T0.setVm vm₁) hT X₁ (g := F0 m pc ls st) (ig := .invokestatic index) rfl (hl.1.trans E.2.2.1.symm) (by rw [hb]; exact hd) (by show 2 * 0 + (st.map fun v => v.category).sum ≤ 12; omega) (X₁.named hnamed) hr
  obtain ⟨t, a, b⟩ := rt_bk_go E h1 h2 hS hP.1 hl B kr kx
  exact ⟨t, hstep₁ _ fun acts => by rw [doInvoke_state]; exact a, b⟩
end RTc2
