/-! ===== the reference tells: a datum ===== -/
theorem g_nu {st : SS} (hF : kF st) {s : Nat} (hs : s < 6 + st.ns.length) (h8 : (nN st.ns s).kd = 8) {k : Nat} {q : SP} (hq : (nN st.ns s).ps[k]? = some q) : ¬ (nN st.ns (sPn (some q))).kd = 8 := by
  obtain ⟨i, rfl, hi⟩ := nN_some (ns := st.ns) (s := s) (nN_ge (ns := st.ns) (by omega)) hs
  generalize nN st.ns (6 + i) = n at h8 hi hq
  obtain ⟨m, m1, m2, m3⟩ := (hF i n hi).2.1 (by omega) q (List.mem_of_getElem? hq)
  have e : sPn (some q) = m := by
    unfold sPn
    dsimp only
    rw [m1]
  rw [e]
  rw [kK_len] at m2
  by_cases h6 : 6 ≤ m
  · obtain ⟨j, rfl, hj⟩ := nN_some (ns := st.ns) h6 m2
    refine m3 h8 _ h6 ?_
    unfold kK
    rw [List.getElem?_map, show 6 + j - 6 = j by omega, hj]
    rfl
  · unfold nN
    rw [if_pos (by omega)]
    show ¬ m = 8
    omega
section NG9
variable {l : Launch} {s0 : State} {a0 : Array Value} {G : va_G} {ca : Nat → ClassId} {d : Nat} {C : Nat × Nat} {S : zS} {M : zM} {Q : Int → zM → Prop} {X : zM → Prop} {xs ys : List JR} {u P m w r : Nat} {t o : Int} {A B : SS} {dB : SP → Option (List Nat)}
theorem n_kid (Γ : rt_Γ l s0 a0 G ca) (hok : zok C) (ht : zTx S t) {st : SS} (hC : rC M t xs st) (hF : kF st) {s : Nat} (hs : s < 6 + st.ns.length) (h6 : 6 ≤ (nN st.ns s).kd) {n : Nat} (hn : n ≤ 3000) {z : SP} (hz : (nN st.ns s).ps[n]? = some z) (hQ : Q z.kn M) : zm_X10_kid l s0 G ca d C S t s n M Q X := by
  have hl := hC.len
  obtain ⟨-, nch, -⟩ := r_node hC hF hs h6
  refine z_X10_kid Γ hok ht ?_
  unfold zt_X10_kid
  refine ⟨⟨by omega, by omega⟩, ?_⟩
  have hkid := m_kidL (l := l) (s0 := s0) (G := G) (ca := ca) (d := d) (C := C) (S := S) (M := M) (w0 := zw s0 ca C S M) (X := X) (Q := Q) Γ hok ht n 0 _ _ z nch hz (by omega)
  rw [show n + 0 = n from rfl] at hkid
  exact hkid hQ
theorem n_pl (Γ : rt_Γ l s0 a0 G ca) (hd : 4 * m + 203 ≤ d) (hok : zok C) (hH : uH S t o ys A B dB) (hC : nlC l s0 G ca C S t o xs ys A B dB m) (hw : w < 6 + A.ns.length) (hr : r < 6 + B.ns.length) (h8 : ¬ (nN A.ns w).kd = 8) (h8r : ¬ (nN B.ns r).kd = 8) {bs : List Nat} {z : tU} (hy : yN A.ns (m + 1) w bs) (hz : tPl A.ns B.ns dB (tT A.ns B.ns dB m) (yN A.ns m) w r bs z) (hU : uM M t o xs ys A B) (hrd : rdW M P bs) (hP : P + bs.length ≤ 4200) (hu : uS M u) (h24 : M 84 24 = (P : Int)) (h : n3 u (P + bs.length) z M Q X) : zm_X11_tell l s0 G ca d C S t w o r M Q X := by
  obtain ⟨hS, hSo, hFA, hFB, hHA, hHB, hOA, hOB, hIA, hVA, hVB, hPA, hPB, hD⟩ := id hH
  obtain ⟨hs, ht, ht1⟩ := id hS
  obtain ⟨-, hto, ho1⟩ := id hSo
  have hla := hU.2.1.len
  have hlb := hU.2.2.2.len
  have hka := hOA.kd hw
  have hkb := hOB.kd hr
  have hb : yNb (yN A.ns m) A.ns w bs := hy
  refine z_X11_tell Γ (by omega) hok hs ?_
  unfold zt_X11_tell
  rw [r_kd hU.2.1 hw, r_kd hU.2.2.2 hr, w32_id (x := ((nN A.ns w).kd : Int)) (by omega) (by omega), w32_id (x := ((nN B.ns r).kd : Int)) (by omega) (by omega)]
  refine ⟨ht, ⟨by omega, by omega⟩, zIf_f (by omega) ⟨hto, ⟨by omega, by omega⟩, zIf_f (by omega) ?_⟩⟩
  -- neither six nor alike
  have unr : z = ([], true) → ∀ Q1 : Int → zM → Prop, zm_X11_unresolved l s0 G ca (d - 1) C S M Q1 X := fun e Q1 => n_unr Γ (by omega) hok hs hu.2.1 e h
  have t159 : ((nN A.ns w).kd < 6 ∨ ¬ (nN A.ns w).kd = (nN B.ns r).kd) → ∀ w0 : rt_Wd, zt_X11_tell_159 l s0 G ca d C S w0 o r ((nN A.ns w).kd : Nat) M Q X := fun hc w0 => by
    unfold zt_X11_tell_159
    refine m_sixOf Γ hok hs (by omega) ?_
    rw [r_kd hU.2.2.2 hr]
    by_cases c6 : (nN A.ns w).kd < 6
    · rw [if_pos c6]
      unfold tPl at hz
      rw [if_neg (by omega)] at hz
      unfold tPln at hz
      rw [if_pos c6] at hz
      refine zIf_f (by decide) ⟨hto, ⟨by omega, by omega⟩, ?_⟩
      refine m_sixOf Γ hok hs (by omega) ?_
      rw [r_kd hU.2.2.2 hr]
      by_cases r6 : (nN B.ns r).kd < 6
      · rw [if_pos r6]
        refine zIf_f (by decide) ?_
        refine m_mSix Γ hok hs (by omega) (by omega) ?_
        cases hx : tSix (nN A.ns w).kd (nN B.ns r).kd with
        | false =>
          rw [hx, if_neg (by decide)] at hz
          exact zIf_t (by decide) (unr hz _)
        | true =>
          rw [hx, if_pos rfl, if_neg (by omega), if_neg (by omega)] at hz
          subst hz
          refine zIf_f (by decide) ?_
          exact n_six Γ (by omega) hok hs c6 (ySix.of hb) hrd hP hu h24 h
      · rw [if_neg r6]
        have hx : tSix (nN A.ns w).kd (nN B.ns r).kd = false := by
          unfold tSix
          exact decide_eq_false (by omega)
        rw [hx, if_neg (by decide)] at hz
        exact zIf_t (by decide) (unr hz _)
    · rw [if_neg c6]
      have hne : ¬ (nN A.ns w).kd = (nN B.ns r).kd := by omega
      unfold tPl at hz
      rw [tPln_ne (by omega) hne, if_neg (show ¬ false = true by decide)] at hz
      have ez : z = ([], true) := by
        split at hz
        · rw [if_neg (by omega)] at hz
          exact hz
        · exact hz
      exact zIf_t (by decide) (unr ez _)
  refine m_sixOf Γ hok hs (by omega) ?_
  by_cases c6 : (nN A.ns w).kd < 6
  · rw [if_pos c6]
    exact zIf_f (by decide) (t159 (Or.inl c6) _)
  rw [if_neg c6]
  refine zIf_t (by decide) ?_
  rw [r_kd hU.2.2.2 hr]
  refine m_sixOf Γ hok hs (by omega) ?_
  by_cases r6 : (nN B.ns r).kd < 6
  · rw [if_pos r6]
    exact zIf_f (by decide) (t159 (Or.inr (by omega)) _)
  rw [if_neg r6]
  refine zIf_t (by decide) ?_
  rw [r_kd hU.2.2.2 hr, w32_id (x := ((nN B.ns r).kd : Int)) (by omega) (by omega)]
  by_cases ke : (nN A.ns w).kd = (nN B.ns r).kd
  · refine zIf_t (by omega) ?_
    unfold tPl at hz
    by_cases k67 : (nN A.ns w).kd = 6 ∨ (nN A.ns w).kd = 7
    · rw [if_pos k67, if_pos ke.symm] at hz
      obtain ⟨c, rest, o1, rfl, hc, hi, rfl⟩ := hz
      have body : zt_X11_tell_235 l s0 G ca d C S (zw s0 ca C S M) t w o r ((nN A.ns w).kd : Nat) M Q X := n_its Γ (by omega) hok hH hC hw k67 hr ke.symm hc hi hU hrd hP hu h24 h
      by_cases k6 : (nN A.ns w).kd = 6
      · exact zIf_t (by omega) body
      · exact zIf_f (by omega) (zIf_t (by omega) body)
    · rw [if_neg k67] at hz
      refine zIf_f (by omega) (zIf_f (by omega) ?_)
      refine m_mat Γ hok hs ht hto hU.1 hU.2.2.1 hU.2.1 hU.2.2.2 hFA hFB hHA hHB hOA hOB hIA 1 (d - 1) w r _ (by omega) (Nat.le_refl 1) (fun c => absurd c k67) hw hr ?_
      rw [tMat_1 h8 h8r k67]
      cases hpl : tPln A.ns B.ns w r with
      | false =>
        rw [hpl, if_neg (by decide)] at hz
        exact zIf_t (by decide) (unr hz _)
      | true =>
        rw [hpl, if_pos rfl] at hz
        refine zIf_f (by decide) ?_
        unfold zt_X11_tell_235
        rw [w32_id (x := ((nN A.ns w).kd : Int)) (by omega) (by omega)]
        by_cases k9 : (nN A.ns w).kd = 9
        · rw [if_neg (by omega), if_neg (by omega)] at hz
          subst hz
          obtain ⟨e1, e2, e3⟩ := (r_node hU.2.1 hFA hw (by omega)).2.2 k9
          refine zIf_t (by omega) ⟨ht, ⟨by omega, by omega⟩, ?_⟩
          rw [e1, w32_id (by omega) (by omega), ← yNb_9 hb k9]
          exact n_copy Γ (by omega) hok hs hrd hP hu h24 h
        refine zIf_f (by omega) ?_
        by_cases k10 : (nN A.ns w).kd = 10
        · rw [if_neg (by omega), if_pos k10] at hz
          obtain ⟨n, y, rfl, hn, rfl⟩ := hz
          have hnl := (List.getElem?_eq_some_iff.mp hn).1
          have hl2 := hPA w hw (by omega)
          have hl3 := hPB r hr (by omega)
          refine zIf_t (by omega) ⟨ht, ?_⟩
          refine s_var Γ hok hs ⟨by omega, by omega⟩ h24 hrd hP ?_
          have f1 : uFr u M (zu M 84 24 ((P + (vB (n : Int)).length : Nat) : Int)) := uFr.rf.zu
          have hU1 := hU.u f1 ht1 ho1
          have h1 := h.mv f1
          have hu1 : uS (zu M 84 24 ((P + (vB (n : Int)).length : Nat) : Int)) u := hu.mv
          have h241 : zu M 84 24 ((P + (vB (n : Int)).length : Nat) : Int) 84 24 = ((P + (vB (n : Int)).length : Nat) : Int) := zu_s _ _ _ _
          generalize zu M 84 24 ((P + (vB (n : Int)).length : Nat) : Int) = M1 at f1 hU1 h1 hu1 h241 ⊢
          refine n_kid Γ hok ht hU1.2.1 hFA hw (by omega) (by omega) hn ?_
          obtain ⟨-, nch, -⟩ := r_node hU1.2.1 hFA hw (by omega)
          rw [k10] at nch
          have hmem := List.mem_of_getElem? hn
          have hkn := rCh_kn nch hmem
          obtain ⟨v, y1, y2, y3, y4⟩ := (rCh_mem nch hmem).2.1 (Or.inl rfl)
          refine ⟨⟨by omega, by omega⟩, hto, ?_⟩
          rw [y1]
          refine n_sy Γ (by omega) hok ht hto hU1.1 hU1.2.2.1 hU1.2.2.2 hFB y2 y3 hr (by omega) ?_
          rw [y4]
          unfold tSy at h1
          cases hsp : sPrt (nN B.ns r).ps y.nm with
          | none =>
            rw [hsp] at h1
            dsimp only at h1
            obtain ⟨i2, e2, hi2⟩ := nN_some (ns := B.ns) (s := r) (nN_ge (ns := B.ns) (by omega)) hr
            have hrN := hU1.2.2.2.2.2.1 i2 _ hi2
            have hkf := (hFB i2 _ hi2).2.2.2.2.2 (by omega)
            rw [← e2] at hrN
            refine zIf_f (show ¬ 0 ≤ w32 (oI none) by decide) ⟨⟨by omega, by omega⟩, ?_⟩
            unfold zt_X11_tell_320
            rw [hrN.2.2.2.2.2.2 (by omega), w32_id (x := (nN B.ns r).dt) (by omega) (by omega)]
            refine ⟨fun c => ?_, fun c => ?_⟩
            · rw [if_pos c] at h1
              exact n_putV Γ (by omega) hok hs ⟨by omega, by omega⟩ hu1 (h1.d h241)
            · rw [if_neg c] at h1
              exact n_unr Γ (by omega) hok hs hu1.2.1 rfl h1
          | some k =>
            rw [hsp] at h1
            dsimp only at h1
            have hkl : k < (nN B.ns r).ps.length := by have := sPrtL_lt _ _ _ _ hsp; omega
            have n2 : -9223372036854775808 ≤ (k : Int) ∧ (k : Int) < 9223372036854775808 := ⟨by omega, by omega⟩
            have n3 : 4 ≤ d - 1 := by omega
            have e1 : w32 (oI (some k)) = (k : Int) := oI_w (by omega)
            refine zIf_t (by rw [e1]; exact Int.natCast_nonneg k) ?_
            unfold zt_X11_tell_320
            rw [e1]
            exact zIf_t (Int.natCast_nonneg k) (n_putV Γ n3 hok hs n2 hu1 (h1.d h241))
        refine zIf_f (by omega) ?_
        by_cases k11 : (nN A.ns w).kd = 11
        · rw [if_pos k11] at hz
          obtain ⟨L, rfl, hL, ho⟩ := hz
          refine zIf_t (by omega) ?_
          refine z_X11_tellRecord Γ (by omega) hok hs ?_
          unfold zt_X11_tellRecord
          obtain ⟨-, nch, -⟩ := r_node hU.2.2.2 hFB hr (by omega)
          rw [← ke, k11] at nch
          rw [h24]
          exact ⟨hto, ⟨by omega, by omega⟩, n_fdL Γ (by omega) hok hH hC hw k11 hr (by omega) hL hy hP _ _ u z M (fun q hq => hq) nch ho hU hrd hu ⟨P, h24⟩ h⟩
        · exfalso
          unfold tPln at hpl
          rw [if_neg c6] at hpl
          simp only [Bool.and_eq_true, decide_eq_true_eq] at hpl
          omega
  · exact zIf_f (by omega) (t159 (Or.inr ke) _)
theorem n_tell (Γ : rt_Γ l s0 a0 G ca) (hok : zok C) (hH : uH S t o ys A B dB) : ∀ m : Nat, nlC l s0 G ca C S t o xs ys A B dB m := by
  obtain ⟨hS, hSo, hFA, hFB, hHA, hHB, hOA, hOB, hIA, hVA, hVB, hPA, hPB, hD⟩ := id hH
  obtain ⟨hs, ht, ht1⟩ := id hS
  obtain ⟨-, hto, ho1⟩ := id hSo
  intro m
  induction m with
  | zero => intro d w r P u bs z M Q X _ _ _ h; exact h.elim
  | succ m ih =>
    intro d w r P u bs z M Q X hd hw hr hz hU hrd hP hu h24 h
    obtain ⟨hy, hz⟩ := hz
    have hla := hU.2.1.len
    have hlb := hU.2.2.2.len
    have hka := hOA.kd hw
    have hkb := hOB.kd hr
    unfold tBd at hz
    by_cases k8 : (nN A.ns w).kd = 8
    · rw [if_pos k8] at hz
      obtain ⟨n, rest, rfl, hn, hz⟩ := hz
      have hl2 := hPA w hw (by omega)
      rw [List.length_append] at hP h
      refine z_X11_tell Γ (by omega) hok hs ?_
      unfold zt_X11_tell
      rw [r_kd hU.2.1 hw, w32_id (x := ((nN A.ns w).kd : Int)) (by omega) (by omega)]
      refine ⟨ht, ⟨by omega, by omega⟩, zIf_t (by omega) ?_⟩
      refine s_var Γ hok hs ⟨by omega, by omega⟩ h24 hrd.l (by omega) ?_
      have f1 : uFr u M (zu M 84 24 ((P + (vB (n : Int)).length : Nat) : Int)) := uFr.rf.zu
      have hU1 := hU.u f1 ht1 ho1
      have hzn := List.getElem?_eq_getElem hn
      refine n_kid Γ hok ht hU1.2.1 hFA hw (by omega) (by omega) hzn ?_
      obtain ⟨-, nch, -⟩ := r_node hU1.2.1 hFA hw (by omega)
      have hmem := List.mem_of_getElem? hzn
      have hkn := rCh_kn nch hmem
      obtain ⟨i2, i3⟩ := r_sPn hFA hw (by omega) hmem (rCh_mem nch hmem)
      rw [hzn] at hz
      refine ⟨⟨by omega, by omega⟩, ?_⟩
      rw [i2]
      refine ih (d - 1) _ r (P + (vB (n : Int)).length) u rest z _ _ X (by omega) i3 hr hz hU1 ((hrd.r).t f1) (by omega) hu.mv (zu_s _ _ _ _) ?_
      rw [show P + (vB (n : Int)).length + rest.length = P + ((vB (n : Int)).length + rest.length) by omega]
      exact h.mv f1
    · rw [if_neg k8] at hz
      by_cases r8 : (nN B.ns r).kd = 8
      · rw [if_pos r8] at hz
        refine z_X11_tell Γ (by omega) hok hs ?_
        unfold zt_X11_tell
        rw [r_kd hU.2.1 hw, r_kd hU.2.2.2 hr, w32_id (x := ((nN A.ns w).kd : Int)) (by omega) (by omega), w32_id (x := ((nN B.ns r).kd : Int)) (by omega) (by omega)]
        refine ⟨ht, ⟨by omega, by omega⟩, zIf_f (by omega) ⟨hto, ⟨by omega, by omega⟩, zIf_t (by omega) ?_⟩⟩
        refine m_fst Γ (by omega) hok hs ht hto hU.1 hU.2.2.1 hU.2.1 hU.2.2.2 hFA hFB hHA hHB hOA hOB hIA hw hr r8 (fun hn => ?_) (fun k q hk hq => ?_)
        · have := hz.1 hn
          exact zIf_f (by decide) (n_unr Γ (by omega) hok hs hu.2.1 this h)
        · obtain ⟨o1, hz1, rfl⟩ := hz.2 k hk
          obtain ⟨-, nch, -⟩ := r_node hU.2.2.2 hFB hr (by omega)
          have hmem := List.mem_of_getElem? hq
          have hkn := rCh_kn nch hmem
          obtain ⟨i2, i3⟩ := r_sPn hFB hr (by omega) hmem (rCh_mem nch hmem)
          have hkl := (List.getElem?_eq_some_iff.mp hq).1
          have hl2 := hPB r hr (by omega)
          rw [w32_id (x := (q.kn : Int)) (by omega) (by omega)]
          refine zIf_t (by omega) ?_
          unfold zt_X11_tell_70
          refine ⟨hto, ⟨by omega, by omega⟩, ?_⟩
          -- the branch's number is told, and then the datum as the branch
          have gen : ∀ (w0 : rt_Wd) (c j : Nat) (h9 : Int), j + c = k → rCh M o ys (nN B.ns r).kd ((nN B.ns r).ps.drop j) h9 → zg_X11_tell_82 l s0 G ca d C S w0 t w o q.kn j h9 M Q X := by
            intro w0 c
            induction c with
            | zero =>
              intro j h9 hj hc
              have : j = k := by omega
              subst this
              rw [drop_at hq] at hc
              obtain ⟨rfl, g2, g3, g4⟩ := hc
              refine zs_X11_tell_82 Γ (by omega) hok hs ?_
              unfold zt_X11_tell_82
              refine zIf_t rfl ?_
              rw [w32_id (x := (j : Int)) (by omega) (by omega)]
              refine n_putV Γ (by omega) hok hs ⟨by omega, by omega⟩ hu ((n3.st (P1 := P) (Q1 := fun _ M108 => zTx S o ∧ ((0 ≤ (q.kn : Int) ∧ (q.kn : Int) < 2200) ∧ (zm_X11_tell l s0 G ca (d - 1) C S t w o (M108 (o + 15) q.kn) M108 (fun r122 M122 => Q 0 M122) X))) h (fun _ hl M1 ho h1 => ?_)).d h24)
              have hU1 := hU.u ho.2.2.2 ht1 ho1
              have e15 : M1 (o + 15) (q.kn : Int) = M (o + 15) (q.kn : Int) := ho.2.2.2 _ _ (by omega) (by omega)
              refine ⟨hto, ⟨by omega, by omega⟩, ?_⟩
              rw [e15, i2]
              rw [hq] at hz1
              have nu : ¬ (nN B.ns (sPn (some q))).kd = 8 := g_nu hFB hr r8 hq
              exact n_pl Γ (by omega) hok hH ih hw i3 k8 nu hy hz1 hU1 (hrd.t ho.2.2.2) hP (hu.o ho hl) ho.2.1 h1
            | succ c ih2 =>
              intro j h9 hj hc
              obtain ⟨q3, hq3⟩ : ∃ q3 : SP, (nN B.ns r).ps[j]? = some q3 := ⟨_, List.getElem?_eq_getElem (show j < (nN B.ns r).ps.length by omega)⟩
              rw [drop_at hq3] at hc
              obtain ⟨rfl, g2, g3, g4⟩ := hc
              have hne := kn_ne hVB (nN_ge (ns := B.ns) (by omega)) hr hq3 hq (show j < k by omega)
              refine zs_X11_tell_82 Γ (by omega) hok hs ?_
              unfold zt_X11_tell_82
              rw [w32_id (x := (q3.kn : Int)) (by omega) (by omega), w32_id (x := (q.kn : Int)) (by omega) (by omega)]
              refine zIf_f (by omega) ⟨hto, ⟨by omega, by omega⟩, ?_⟩
              rw [show (j : Int) + 1 = ((j + 1 : Nat) : Int) by omega]
              exact ih2 (j + 1) _ (by omega) g4
          exact gen _ k 0 _ (Nat.zero_add _) nch
      · rw [if_neg r8] at hz
        exact n_pl Γ (by omega) hok hH ih hw hr k8 r8 hy hz hU hrd hP hu h24 h
end NG9
