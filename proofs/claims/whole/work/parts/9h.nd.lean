/-! ===== the reference tells: what it stands on; names; fields ===== -/
def uH (S : zS) (t o : Int) (ys : List JR) (A B : SS) (dB : SP → Option (List Nat)) : Prop := mSh S t ∧ mSh S o ∧ kF A ∧ kF B ∧ kHn A ∧ kHn B ∧ kOk A ∧ kOk B ∧ kI A ∧ kV A ∧ kV B ∧ kPs A ∧ kPs B ∧
  ∀ (i : Nat) (n : SN) (q : SP), B.ns[i]? = some n → n.kd = 11 → q ∈ n.ps → (q.df = none → dB q = none) ∧ ∀ v : Nat, q.df = some v → v < ys.length ∧ hv ys 24 v ∧ ∃ b : List Nat, sDv ys B.ns 25 v (sPn (some q)) = .ok b ∧ dB q = some b
def uM (M : zM) (t o : Int) (xs ys : List JR) (A B : SS) : Prop := rTx M t xs ∧ rC M t xs A ∧ rTx M o ys ∧ rC M o ys B
theorem uM.u {M M1 : zM} {t o : Int} {xs ys : List JR} {A B : SS} {u : Nat} (h : uM M t o xs ys A B) (f : uFr u M M1) (ht : 86 ≤ t ∧ t + 21 < 134) (ho : 86 ≤ o ∧ o + 21 < 134) : uM M1 t o xs ys A B := ⟨h.1.u f ht, h.2.1.uf f ht, h.2.2.1.u f ho, h.2.2.2.uf f ho⟩
theorem rdW.t {M M1 : zM} {P u : Nat} {w : List Nat} (h : rdW M P w) (f : uFr u M M1) : rdW M1 P w := fun j hj => by rw [f _ _ (by omega) (by omega)]; exact h j hj
theorem tBg_w {P : Nat} {L : List (List Nat)} {j : Nat} {b : List Nat} (h : L[j]? = some b) {M : zM} (hr : rdW M P L.flatten) : rdW M (tBg P L j) b ∧ tBg P L j + b.length ≤ P + L.flatten.length := by
  have hjl := (List.getElem?_eq_some_iff.mp h).1
  have e : L.flatten = (L.take j).flatten ++ (b ++ (L.drop (j + 1)).flatten) := by
    have e1 : L = L.take j ++ (b :: L.drop (j + 1)) := by
      rw [← (List.getElem?_eq_some_iff.mp h).2, ← List.drop_eq_getElem_cons hjl, List.take_append_drop]
    have e2 := congrArg List.flatten e1
    rw [List.flatten_append, List.flatten_cons] at e2
    exact e2
  rw [e] at hr
  refine ⟨hr.r.l, ?_⟩
  unfold tBg
  rw [e, List.length_append, List.length_append]
  omega
/-- kids' numbers are apart -/
theorem kn_ne {st : SS} (hV : kV st) {s : Nat} (h6 : 6 ≤ s) (hs : s < 6 + st.ns.length) {i j : Nat} {a b : SP} (hi : (nN st.ns s).ps[i]? = some a) (hj : (nN st.ns s).ps[j]? = some b) (hij : i < j) : ¬ a.kn = b.kn := by
  obtain ⟨k, rfl, hk⟩ := nN_some (ns := st.ns) (s := s) h6 hs
  have hp := hV.1.2.2 k _ hk
  obtain ⟨h1, e1⟩ := List.getElem?_eq_some_iff.mp hi
  obtain ⟨h2, e2⟩ := List.getElem?_eq_some_iff.mp hj
  have := List.pairwise_iff_getElem.mp hp i j h1 h2 hij
  rw [e1, e2] at this
  exact this
section ND9
variable {l : Launch} {s0 : State} {a0 : Array Value} {G : va_G} {ca : Nat → ClassId} {d : Nat} {C : Nat × Nat} {S : zS} {M : zM} {Q : Int → zM → Prop} {X : zM → Prop} {xs ys : List JR} {u P m w r : Nat} {t o : Int} {A B : SS} {dB : SP → Option (List Nat)}
/-- a symbol of the one that the other says -/
theorem n_syL (Γ : rt_Γ l s0 a0 G ca) (hd : 2 ≤ d) (hok : zok C) (ht : zTx S t) (ho : zTx S o) (hTA : rTx M t xs) (hTB : rTx M o ys) {v : Nat} (hv : v < xs.length) (hk : (xx xs v).kd = 3) {kd : Nat} (hkd : kd = 10 ∨ kd = 11) {w0 : rt_Wd} : ∀ (ps : List SP) (h : Int) (i : Nat), rCh M o ys kd ps h → Q (oI (sPrtL (xx xs v).ws ps i)) M → zg_X10_symbol_11 l s0 G ca d C S w0 o t (rP xs v : Nat) i h M Q X := by
  intro ps
  induction ps with
  | nil =>
    intro h i hc hQ
    have e : h = -1 := hc
    subst e
    refine zs_X10_symbol_11 Γ (by omega) hok ho ?_
    unfold zt_X10_symbol_11
    exact ⟨fun _ => hQ, fun c => absurd (by decide) c⟩
  | cons q r ih =>
    intro h i hc hQ
    obtain ⟨rfl, h2, ⟨-, h3, -⟩, h4⟩ := hc
    obtain ⟨u, y1, y2, y3, y4⟩ := h3 hkd
    obtain ⟨L, g1, g2, g3⟩ := r_str hTA hv hk
    obtain ⟨L2, f1, f2, f3⟩ := r_str hTB y2 y3
    refine zs_X10_symbol_11 Γ (by omega) hok ho ?_
    unfold zt_X10_symbol_11
    rw [w32_id (by omega) (by omega), y1]
    refine ⟨fun c => by omega, fun _ => ⟨⟨by omega, by omega⟩, ?_⟩⟩
    unfold sPrtL at hQ
    refine q_same Γ hok ho ht (by omega) (by omega) (by omega) (by omega) f1 g1 (by omega) (by omega) (fun e => ?_) (fun e => ?_)
    · rw [if_pos (by rw [← y4]; exact e)] at hQ
      exact ⟨fun c => absurd c (by decide), fun _ => hQ⟩
    · rw [if_neg (fun c => e (by rw [y4]; exact c))] at hQ
      refine ⟨fun _ => ?_, fun c => absurd (by decide) c⟩
      rw [show (i : Int) + 1 = ((i + 1 : Nat) : Int) by omega]
      exact ih _ (i + 1) h4 hQ
theorem n_sy (Γ : rt_Γ l s0 a0 G ca) (hd : 2 ≤ d) (hok : zok C) (ht : zTx S t) (ho : zTx S o) (hTA : rTx M t xs) (hTB : rTx M o ys) (hCB : rC M o ys B) (hFB : kF B) {v : Nat} (hv : v < xs.length) (hk : (xx xs v).kd = 3) (hr : r < 6 + B.ns.length) (hkr : (nN B.ns r).kd = 10) (hQ : Q (oI (sPrt (nN B.ns r).ps (xx xs v).ws)) M) : zm_X10_symbol l s0 G ca d C S o r t (rP xs v : Nat) M Q X := by
  have hlen := hCB.len
  refine z_X10_symbol Γ (by omega) hok ho ?_
  unfold zt_X10_symbol
  obtain ⟨-, nch, -⟩ := r_node hCB hFB hr (by omega)
  exact ⟨⟨by omega, by omega⟩, n_syL Γ hd hok ht ho hTA hTB hv hk (Or.inl hkr) _ _ 0 nch hQ⟩
/-- the writer's field of the same name -/
theorem n_fl (Γ : rt_Γ l s0 a0 G ca) (hd : 4 ≤ d) (hok : zok C) (hs : zSok S) (ht : zTx S t) (ho : zTx S o) (hTA : rTx M t xs) (hTB : rTx M o ys) (hCA : rC M t xs A) (hFA : kF A) (hw : w < 6 + A.ns.length) (hkw : (nN A.ns w).kd = 11) {z : SP} (hz2 : z.kn < 2200) (hz : rK M o ys 11 z)
    (k0 : sPrt (nN A.ns w).ps z.nm = none → Q (-1) M) (k1 : ∀ (i : Nat) (a : SP), sPrt (nN A.ns w).ps z.nm = some i → (nN A.ns w).ps[i]? = some a → Q a.kn M) : zm_X11_fieldLike l s0 G ca d C S t w o z.kn M Q X := by
  have hlen := hCA.len
  refine z_X11_fieldLike Γ (by omega) hok hs ?_
  unfold zt_X11_fieldLike
  refine ⟨ht, ⟨by omega, by omega⟩, ?_⟩
  obtain ⟨v, y1, y2, y3, y4⟩ := hz.2.1 (Or.inr rfl)
  obtain ⟨L2, f1, f2, f3⟩ := r_str hTB y2 y3
  have gen : ∀ (w0 : rt_Wd) (rest : List SP) (k : Nat) (h : Int), (nN A.ns w).ps.drop k = rest → rCh M t xs 11 rest h → (sPrtL z.nm rest k = none → Q (-1) M) → (∀ (i : Nat) (a : SP), sPrtL z.nm rest k = some i → (nN A.ns w).ps[i]? = some a → Q a.kn M) → zg_X11_fieldLike_8 l s0 G ca d C S w0 t o z.kn h M Q X := by
    intro w0 rest
    induction rest with
    | nil =>
      intro k h hdr hc h0 h1
      have hh : h = -1 := hc
      subst hh
      refine zs_X11_fieldLike_8 Γ (by omega) hok hs ?_
      unfold zt_X11_fieldLike_8
      exact zIf_t (by decide) (h0 rfl)
    | cons a rest ih =>
      intro k h hdr hc h0 h1
      obtain ⟨e1, e2, e3, e4⟩ := hc
      have ha : (nN A.ns w).ps[k]? = some a := by
        have := congrArg (fun l => l[0]?) hdr
        simpa using this
      have hdr2 : (nN A.ns w).ps.drop (k + 1) = rest := by
        have := congrArg (List.drop 1) hdr
        rw [List.drop_drop] at this
        exact this
      obtain ⟨v2, x1, x2, x3, x4⟩ := e3.2.1 (Or.inr rfl)
      obtain ⟨L, g1, g2, g3⟩ := r_str hTA x2 x3
      refine zs_X11_fieldLike_8 Γ (by omega) hok hs ?_
      unfold zt_X11_fieldLike_8
      rw [e1, w32_id (by omega) (by omega), x1, y1]
      refine zIf_f (by omega) ⟨ht, ⟨by omega, by omega⟩, ho, ⟨by omega, by omega⟩, ?_⟩
      unfold sPrtL at h0 h1
      refine q_same Γ hok ht ho (by omega) (by omega) (by omega) (by omega) g1 f1 (by omega) (by omega) (fun e => ?_) (fun e => ?_)
      · rw [x4, y4] at e
        rw [if_pos e] at h1
        exact zIf_f (by decide) (h1 k a rfl ha)
      · rw [x4, y4] at e
        rw [if_neg e] at h0 h1
        exact zIf_t (by decide) (ih (k + 1) _ hdr2 e4 h0 h1)
  obtain ⟨-, nch, -⟩ := r_node hCA hFA hw (by omega)
  rw [hkw] at nch
  exact gen (zw s0 ca C S M) (nN A.ns w).ps 0 _ rfl nch k0 k1
end ND9
