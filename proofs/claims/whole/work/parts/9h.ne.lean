/-! ===== the reference tells: records ===== -/
/-- telling's promise -/
def nlC (l : Launch) (s0 : State) (G : va_G) (ca : Nat → ClassId) (C : Nat × Nat) (S : zS) (t o : Int) (xs ys : List JR) (A B : SS) (dB : SP → Option (List Nat)) (m : Nat) : Prop :=
  ∀ (d w r P u : Nat) (bs : List Nat) (z : tU) (M : zM) (Q : Int → zM → Prop) (X : zM → Prop), 4 * m + 200 ≤ d → w < 6 + A.ns.length → r < 6 + B.ns.length → tT A.ns B.ns dB m w r bs z → uM M t o xs ys A B → rdW M P bs → P + bs.length ≤ 4200 → uS M u → M 84 24 = (P : Int) → n3 u (P + bs.length) z M Q X → zm_X11_tell l s0 G ca d C S t w o r M Q X
theorem drop_at {α : Type} {l : List α} {j : Nat} {a : α} (h : l[j]? = some a) : l.drop j = a :: l.drop (j + 1) := by
  obtain ⟨h1, h2⟩ := List.getElem?_eq_some_iff.mp h
  rw [List.drop_eq_getElem_cons h1, h2]
section NE9
variable {l : Launch} {s0 : State} {a0 : Array Value} {G : va_G} {ca : Nat → ClassId} {d : Nat} {C : Nat × Nat} {S : zS} {M : zM} {Q : Int → zM → Prop} {X : zM → Prop} {xs ys : List JR} {u P m w r : Nat} {t o : Int} {A B : SS} {dB : SP → Option (List Nat)}
/-- to the writer's field, over those before it, and the field is told -/
theorem n_skL (Γ : rt_Γ l s0 a0 G ca) (hd : 4 * m + 201 ≤ d) (hok : zok C) (hS : mSh S t) (hSo : mSh S o) (hC : nlC l s0 G ca C S t o xs ys A B dB m) (hK : skC l s0 G ca C S t xs A m) (hFA : kF A) (hV : kV A) (hw : w < 6 + A.ns.length) (hkw : (nN A.ns w).kd = 11) {L : List (List Nat)} (hL : tFs (yN A.ns m) (nN A.ns w).ps L) (hrd : rdW M P L.flatten) (hP : P + L.flatten.length ≤ 4200) (hU : uM M t o xs ys A B) (hu : uS M u) {i : Nat} {a : SP} {b : List Nat} (ha : (nN A.ns w).ps[i]? = some a) (hb : L[i]? = some b) {z : SP} (hzk : z.kn < 2200) {r9 : Nat} (hz : M (o + 15) z.kn = (r9 : Int)) (hr9 : r9 < 6 + B.ns.length) {o1 : tU} (h1 : tT A.ns B.ns dB m (sPn (some a)) r9 b o1) {w0 : rt_Wd} {v5 : Int}
    (h : n3 u (tBg P L i + b.length) o1 M (fun _ M97 => zg_X11_tellRecord_15 l s0 G ca d C S w0 t w o v5 (M97 (o + 18) z.kn) M97 Q X) X) : ∀ (c j : Nat) (h9 : Int), j + c = i → rCh M t xs 11 ((nN A.ns w).ps.drop j) h9 → zg_X11_tellRecord_49 l s0 G ca d C S w0 t w o v5 z.kn a.kn h9 (zu M 84 24 ((tBg P L j : Nat) : Int)) Q X := by
  obtain ⟨hs, ht, ht1⟩ := id hS
  obtain ⟨-, hto, ho1⟩ := id hSo
  obtain ⟨-, nch, -⟩ := r_node hU.2.1 hFA hw (by omega)
  rw [hkw] at nch
  have hla := hU.2.1.len
  have hlb := hU.2.2.2.len
  have f1 : ∀ j : Nat, uFr u M (zu M 84 24 ((tBg P L j : Nat) : Int)) := fun j => uFr.rf.zu
  intro c
  induction c with
  | zero =>
    intro j h9 hj hc
    have : j = i := by omega
    subst this
    rw [drop_at ha] at hc
    obtain ⟨rfl, g2, g3, g4⟩ := hc
    obtain ⟨q1, q2⟩ := r_sPn hFA hw (by omega) (List.mem_of_getElem? ha) g3
    refine zs_X11_tellRecord_49 Γ (by omega) hok hs ?_
    unfold zt_X11_tellRecord_49
    rw [zu_a (by omega), zu_a (by omega), q1, hz]
    obtain ⟨x1, x2⟩ := tBg_w hb hrd
    exact zIf_t rfl ⟨ht, ⟨by omega, by omega⟩, hto, ⟨by omega, by omega⟩, hC (d - 1) _ r9 (tBg P L j) u b o1 _ _ X (by omega) q2 hr9 h1 (hU.u (f1 j) ht1 ho1) (x1.u (by decide)) (by omega) hu.mv (zu_s _ _ _ _) (h.mv (f1 j))⟩
  | succ c ih =>
    intro j h9 hj hc
    obtain ⟨q, hq⟩ : ∃ q : SP, (nN A.ns w).ps[j]? = some q := ⟨_, List.getElem?_eq_getElem (show j < (nN A.ns w).ps.length by have := (List.getElem?_eq_some_iff.mp ha).1; omega)⟩
    rw [drop_at hq] at hc
    obtain ⟨rfl, g2, g3, g4⟩ := hc
    obtain ⟨q1, q2⟩ := r_sPn hFA hw (by omega) (List.mem_of_getElem? hq) g3
    obtain ⟨bj, y1, y2⟩ := hL.at hq
    obtain ⟨x1, x2⟩ := tBg_w y1 hrd
    have hak : a.kn < 2200 := rCh_kn nch (List.mem_of_getElem? ha)
    have hne := kn_ne hV (nN_ge (ns := A.ns) (by omega)) hw hq ha (show j < i by omega)
    refine zs_X11_tellRecord_49 Γ (by omega) hok hs ?_
    unfold zt_X11_tellRecord_49
    rw [w32_id (x := (q.kn : Int)) (by omega) (by omega), w32_id (x := (a.kn : Int)) (by omega) (by omega)]
    refine zIf_f (by omega) ⟨ht, ⟨by omega, by omega⟩, ?_⟩
    rw [zu_a (by omega), q1]
    refine hK (d - 1) _ (tBg P L j) bj _ _ _ (by omega) q2 y2 (hU.u (f1 j) ht1 ho1).2.1 (zu_s _ _ _ _) (x1.u (by decide)) (by omega) ?_
    rw [zu_zu, zu_a (by omega), ← tBg_s y1]
    exact ih (j + 1) _ (by omega) g4
theorem n_fdL (Γ : rt_Γ l s0 a0 G ca) (hd : 4 * m + 202 ≤ d) (hok : zok C) (hH : uH S t o ys A B dB) (hC : nlC l s0 G ca C S t o xs ys A B dB m) (hw : w < 6 + A.ns.length) (hkw : (nN A.ns w).kd = 11) (hr : r < 6 + B.ns.length) (hkr : (nN B.ns r).kd = 11) {L : List (List Nat)} (hL : tFs (yN A.ns m) (nN A.ns w).ps L) (hy : yN A.ns (m + 1) w L.flatten) (hP : P + L.flatten.length ≤ 4200) {w0 : rt_Wd} : ∀ (l9 : List SP) (h : Int) (u : Nat) (z : tU) (M : zM), (∀ q ∈ l9, q ∈ (nN B.ns r).ps) → rCh M o ys 11 l9 h → tRf (tT A.ns B.ns dB m) dB (nN A.ns w).ps L l9 z → uM M t o xs ys A B → rdW M P L.flatten → uS M u → (∃ P0 : Nat, M 84 24 = (P0 : Int)) → n3 u (P + L.flatten.length) z M Q X → zg_X11_tellRecord_15 l s0 G ca d C S w0 t w o P h M Q X := by
  obtain ⟨hS, hSo, hFA, hFB, hHA, hHB, hOA, hOB, hIA, hVA, hVB, hPA, hPB, hD⟩ := id hH
  obtain ⟨hs, ht, ht1⟩ := id hS
  obtain ⟨-, hto, ho1⟩ := id hSo
  intro l9
  induction l9 with
  | nil =>
    intro h u z M hall hc hz hU hrd hu h24 hn
    have eh : h = -1 := hc
    have ez : z = ([], false) := hz
    subst eh
    subst ez
    refine zs_X11_tellRecord_15 Γ (by omega) hok hs ?_
    unfold zt_X11_tellRecord_15
    refine zIf_t (by decide) ?_
    have f1 : uFr u M (zu M 84 24 (P : Int)) := uFr.rf.zu
    refine s_skip Γ hok hS hFA hOA hPA (m + 1) (d - 1) w P L.flatten _ _ X (by omega) hw hy (hU.u f1 ht1 ho1).2.1 (zu_s _ _ _ _) (hrd.u (by decide)) hP ?_
    rw [zu_zu]
    exact (hn.mv (M0 := zu M 84 24 ((P + L.flatten.length : Nat) : Int)) uFr.rf.zu).nil hu.mv.1 hu.2.1 (zu_s _ _ _ _)
  | cons q l9 ih =>
    intro h u z M hall hc hz hU hrd hu h24 hn
    obtain ⟨o1, o2, ho, ho2, rfl⟩ := hz
    obtain ⟨rfl, e2, e3, e4⟩ := hc
    have hqm := hall q List.mem_cons_self
    obtain ⟨q1, q2⟩ := r_sPn hFB hr (by omega) hqm e3
    -- the loop behind a step
    have next : ∀ (P1 : Nat) (M1 : zM), uO u P1 o1.1 M M1 → u + o1.1.length ≤ 4096 → n3 (u + o1.1.length) (P + L.flatten.length) o2 M1 Q X → zg_X11_tellRecord_15 l s0 G ca d C S w0 t w o P (M1 (o + 18) q.kn) M1 Q X := fun P1 M1 ho9 hl hn3 => by
      have e18 : M1 (o + 18) (q.kn : Int) = M (o + 18) (q.kn : Int) := ho9.2.2.2 _ _ (by omega) (by omega)
      rw [e18]
      exact ih _ _ o2 M1 (fun q2 hq2 => hall q2 (List.mem_cons_of_mem _ hq2)) (e4.mono (fun q1 _ a h1 h2 => ho9.2.2.2 a _ (by omega) (by omega))) ho2 (hU.u ho9.2.2.2 ht1 ho1) (hrd.t ho9.2.2.2) (hu.o ho9 hl) ⟨P1, ho9.2.1⟩ hn3
    refine zs_X11_tellRecord_15 Γ (by omega) hok hs ?_
    unfold zt_X11_tellRecord_15
    rw [w32_id (x := (q.kn : Int)) (by omega) (by omega)]
    refine zIf_f (by omega) ?_
    refine n_fl Γ (by omega) hok hs ht hto hU.1 hU.2.2.1 hU.2.1 hFA hw hkw e2 e3 (fun hn9 => ?_) (fun i a hi ha => ?_)
    · have hd1 := ho.2 hn9
      obtain ⟨ib, rb, hib⟩ := nN_some (ns := B.ns) (s := r) (nN_ge (ns := B.ns) (by omega)) hr
      obtain ⟨D1, D2⟩ := hD ib _ q hib hkr hqm
      refine zIf_t (by decide) ⟨hto, ⟨by omega, by omega⟩, ?_⟩
      rw [e3.2.2 rfl, q1]
      unfold tDf at hd1
      cases hdf : q.df with
      | none =>
        rw [D1 hdf] at hd1
        subst hd1
        refine zIf_t (show w32 (-1) < 0 by decide) ?_
        exact n_unr Γ (by omega) hok hs hu.2.1 rfl hn
      | some v =>
        obtain ⟨v1, v2, b, v3, v4⟩ := D2 v hdf
        rw [v4] at hd1
        subst hd1
        obtain ⟨P0, h24⟩ := h24
        have hTl := hU.2.2.1.2.2.1
        obtain ⟨-, -, v9, -⟩ := r_nd hU.2.2.1 v1
        have e9 : oR ys (some v) = ((rP ys v : Nat) : Int) := rfl
        rw [e9, w32_id (by omega) (by omega)]
        refine zIf_f (by omega) ?_
        refine n_def Γ hok hSo hOB hFB hVB 24 (d - 1) v _ u b M _ X (by omega) v1 q2 v2 hU.2.2.1 hU.2.2.2 hu v3 ((n3.st (P1 := P0) (Q1 := fun _ M129 => zg_X11_tellRecord_15 l s0 G ca d C S w0 t w o P (M129 (o + 18) q.kn) M129 Q X) hn (fun _ hl M1 ho9 hn3 => next P0 M1 ho9 hl hn3)).d h24)
    · obtain ⟨a2, b, y1, y2, y3⟩ := ho.1 i hi
      have : a2 = a := by rw [ha] at y1; exact (Option.some.inj y1).symm
      subst this
      obtain ⟨-, nch, -⟩ := r_node hU.2.1 hFA hw (by omega)
      rw [hkw] at nch
      have hak : a2.kn < 2200 := rCh_kn nch (List.mem_of_getElem? ha)
      have hla := hU.2.1.len
      rw [w32_id (x := (a2.kn : Int)) (by omega) (by omega)]
      refine zIf_f (by omega) ⟨ht, ⟨by omega, by omega⟩, ?_⟩
      rw [zu_a (by omega)]
      refine n_skL (P := P) (L := L) Γ (by omega) hok hS hSo hC (s_skip Γ hok hS hFA hOA hPA m) hFA hVA hw hkw hL hrd hP hU hu ha y2 e2 q1 q2 y3 (n3.st hn (fun _ hl M1 ho9 hn3 => ?_)) i 0 _ (Nat.zero_add _) nch
      exact next _ M1 ho9 hl hn3
end NE9
