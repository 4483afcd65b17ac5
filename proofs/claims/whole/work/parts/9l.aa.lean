/-! ===== a schema that was taken: what its text says ===== -/
def tbF (tb : List Nat) : Int → Int := fun j => ((tb.getD j.toNat 0 : Nat) : Int)
/-- the bytes say this schema -/
def gT (tb : List Nat) (xs : List JR) (root : Nat) (st : SS) : Prop := (tb.length ≤ 1300 ∧ ∀ x ∈ tb, x < 256) ∧ jTx (rg (tbF tb) tb.length) tb.length = .ok xs ∧ sDra xs = .ok (root, st)
/-- the bytes of a field's default -/
def dBy (xs : List JR) (st : SS) : SP → Option (List Nat) := fun q => match q.df with
  | none => none
  | some v => match sDv xs st.ns 25 v (sPn (some q)) with
    | .ok b => some b
    | .error _ => none
/-- all that holds of a schema that was taken -/
def kAl (xs : List JR) (root : Nat) (st : SS) : Prop := tOk xs ∧ sFin xs root st ∧ kI st ∧ kHn st ∧ kGn st ∧ kPs st ∧ ∀ (i : Nat) (n : SN) (q : SP), st.ns[i]? = some n → n.kd = 11 → q ∈ n.ps → ∀ v : Nat, q.df = some v → v < xs.length ∧ ∃ b : List Nat, sDv xs st.ns 25 v (sPn (some q)) = .ok b
theorem sFil_ok {xs : List JR} {ns : List SN} : ∀ {l : List (Nat × Nat × Option Nat)}, sFil xs ns l = none → ∀ z ∈ l, ∀ v : Nat, z.2.2 = some v → ∃ b : List Nat, sDv xs ns 25 v (sPtN ns z) = .ok b := by
  intro l
  induction l with
  | nil => intro _ z hz; exact nomatch hz
  | cons y r ih =>
    intro h z hz v hv
    unfold sFil at h
    cases hy : y.2.2 with
    | none =>
      rw [hy] at h
      rcases List.mem_cons.mp hz with e | e
      · rw [e, hy] at hv
        exact nomatch hv
      · exact ih h z e v hv
    | some u =>
      rw [hy] at h
      dsimp only at h
      cases hd : sDv xs ns 25 u (sPtN ns y) with
      | error e => rw [hd] at h; exact nomatch h
      | ok b =>
        rw [hd] at h
        dsimp only at h
        rcases List.mem_cons.mp hz with e | e
        · rw [e, hy] at hv
          cases hv
          rw [e]
          exact ⟨b, hd⟩
        · exact ih h z e v hv
theorem tb_at {tb : List Nat} (h : ∀ x ∈ tb, x < 256) (j : Nat) : tb.getD j 0 < 256 := by
  rw [List.getD_eq_getElem?_getD]
  cases e : tb[j]? with
  | none => exact (by decide : 0 < 256)
  | some x => exact h x (List.mem_of_getElem? e)
theorem tbF_c {tb : List Nat} (hl : tb.length ≤ 1300) (h : ∀ x ∈ tb, x < 256) : cOk (tbF tb) tb.length := ⟨by omega, fun j hj => by
  unfold tbF
  have := tb_at h (j : Int).toNat
  omega⟩
/-- the reference's bytes of the same text -/
theorem tbF_r {tb : List Nat} (hl : tb.length ≤ 1300) (h : ∀ x ∈ tb, x < 256) {br : Int → Int} (hr : ∀ j : Nat, j < tb.length → br j = w8 (tb.getD j 0 : Nat)) : rOk br tb.length ∧ jTx (rg br tb.length) tb.length = jTx (rg (tbF tb) tb.length) tb.length := by
  refine ⟨⟨by omega, fun j hj => ?_⟩, jTx_two (tbF_c hl h) (fun j hj => ?_)⟩
  · rw [hr j hj]
    exact w8_b _
  · rw [hr j hj]
    rfl
theorem tOk_c {tb : List Nat} (hl : tb.length ≤ 1300) (h : ∀ x ∈ tb, x < 256) {xs : List JR} (hx : jTx (rg (tbF tb) tb.length) tb.length = .ok xs) : tOk xs := by
  obtain ⟨h1, h2⟩ := tbF_r (br := fun j => w8 (tb.getD j.toNat 0 : Nat)) hl h (fun j hj => rfl)
  exact jTx_tOk h1 hl (by rw [h2]; exact hx)
theorem sDra_ok {xs : List JR} {root : Nat} {st : SS} (h : sDra xs = .ok (root, st)) : sTop xs = .ok (root, st) ∧ sFil xs st.ns st.lt = none := by
  unfold sDra at h
  cases ht : sTop xs with
  | error e => rw [ht] at h; exact nomatch h
  | ok z =>
    obtain ⟨n, s2⟩ := z
    rw [ht] at h
    dsimp only at h
    cases hf : sFil xs s2.ns s2.lt with
    | some e => rw [hf] at h; exact nomatch h
    | none =>
      rw [hf] at h
      dsimp only at h
      injection h with h
      injection h with h1 h2
      subst h1
      subst h2
      exact ⟨rfl, hf⟩
theorem gT.k {tb : List Nat} {xs : List JR} {root : Nat} {st : SS} (h : gT tb xs root st) : kAl xs root st := by
  obtain ⟨⟨h1, h2⟩, h3, h4⟩ := h
  have ht := tOk_c h1 h2 h3
  obtain ⟨s1, s2⟩ := sDra_ok h4
  have hf := sTop_fin ht.1 ht.2.1 s1
  have hg := sTop_gn s1
  obtain ⟨f1, f2, f3, f4, f5, f6, f7, f8⟩ := id hf
  refine ⟨ht, hf, sTop_i s1, sTop_h s1, hg, fun s hs h7 => ?_, fun i n q hi hk hq v hv => ?_⟩
  · obtain ⟨i, rfl, hi⟩ := nN_some (ns := st.ns) (s := s) (nN_ge (ns := st.ns) (by omega)) hs
    have := (f4 i _ hi).2.2.2.1 (by omega)
    have := (hg.1 i _ hi).2
    omega
  · obtain ⟨k, hk2⟩ := List.getElem?_of_mem hq
    have hkl := (List.getElem?_eq_some_iff.mp hk2).1
    obtain ⟨z, hz, z1, z2⟩ := f6 i k n hi hk hkl (fun h => h)
    obtain ⟨i2, n2, q2, y1, y2, y3, y4, y5, y6⟩ := f5 z hz
    have : i2 = i := by omega
    subst this
    rw [hi] at y2
    cases y2
    rw [z2, hk2] at y4
    cases y4
    rw [hv] at y5
    refine ⟨y6 v y5.symm, ?_⟩
    obtain ⟨b, hb⟩ := sFil_ok s2 z hz v y5.symm
    rw [sPtN_at z1 hi (by rw [z2]; exact hk2)] at hb
    exact ⟨b, hb⟩
theorem kAl.d {xs : List JR} {root : Nat} {st : SS} (h : kAl xs root st) {i : Nat} {n : SN} {q : SP} (hi : st.ns[i]? = some n) (hk : n.kd = 11) (hq : q ∈ n.ps) {v : Nat} (hdf : q.df = some v) : v < xs.length ∧ hv xs 24 v ∧ ∃ b : List Nat, sDv xs st.ns 25 v (sPn (some q)) = .ok b ∧ dBy xs st q = some b := by
  obtain ⟨h1, b, h2⟩ := h.2.2.2.2.2.2 i n q hi hk hq v hdf
  refine ⟨h1, h.1.2.2.2.1 v h1, b, h2, ?_⟩
  unfold dBy
  rw [hdf]
  dsimp only
  rw [h2]
theorem kAl.u {S : zS} {xs ys : List JR} {rA rB : Nat} {A B : SS} (hs : zSok S) (hA : kAl xs rA A) (hB : kAl ys rB B) : uH S 86 108 ys A B (dBy ys B) := by
  obtain ⟨a1, ⟨f1, f2, f3, f4, f5, f6, f7, f8⟩, a3, a4, a5, a6, a7⟩ := id hA
  obtain ⟨b1, ⟨g1, g2, g3, g4, g5, g6, g7, g8⟩, b3, b4, b5, b6, b7⟩ := id hB
  refine ⟨⟨hs, (zTx_of hs).1, by decide, by decide⟩, ⟨hs, (zTx_of hs).2, by decide, by decide⟩, f4, g4, a4, b4, f1, g1, a3, f2, g2, a6, b6, fun i n q hi hk hq => ⟨fun h => ?_, fun v hv => hB.d hi hk hq hv⟩⟩
  unfold dBy
  rw [h]
/-- the class's memory says it -/
theorem pS.dm {M : zM} {q : Int} {ys : List JR} {rB NV U : Nat} {B : SS} (h : pS M q ys rB B NV U) : tDm M q B (dBy ys B) := by
  obtain ⟨h1, h2, h3, h4, h5⟩ := h
  intro i k n z hi hk hz
  obtain ⟨d1, d2⟩ := h5 i k n z hi hk hz
  refine ⟨fun hn => ?_, fun b hb => ?_⟩
  · unfold dBy at hn
    cases hdf : z.df with
    | none => exact d1 hdf
    | some v =>
      obtain ⟨b, b1, b2⟩ := d2 v hdf
      rw [hdf] at hn
      dsimp only at hn
      rw [b1] at hn
      exact nomatch hn
  · unfold dBy at hb
    cases hdf : z.df with
    | none => rw [hdf] at hb; exact nomatch hb
    | some v =>
      obtain ⟨b2, e1, e2⟩ := d2 v hdf
      rw [hdf] at hb
      dsimp only at hb
      rw [e1] at hb
      have : b2 = b := Option.some.inj hb
      subst this
      obtain ⟨a, x1, x2, x3, x4⟩ := e2
      exact ⟨a, x1, x2, by omega, x4⟩
theorem pS.g {M : zM} {p q : Int} {xs ys : List JR} {rA rB NU NV U V : Nat} {A B : SS} (hA : pS M p xs rA A NU U) (hB : pS M q ys rB B NV V) : tG M p q NU NV A B (dBy ys B) := ⟨hA.1, hB.1, hB.dm⟩
theorem pS.fr {M M1 : zM} {p : Int} {xs : List JR} {root NU U : Nat} {st : SS} (h : pS M p xs root st NU U) (e : ∀ a : Int, p ≤ a → a ≤ p + 24 → M1 a = M a) : pS M1 p xs root st NU U := by
  obtain ⟨h1, h2, h3, h4, h5⟩ := h
  refine ⟨h1.fr (fun a ha => e a (by omega) (by omega)), ⟨by rw [e p (by omega) (by omega)]; exact h2.1, by rw [e (p + 13) (by omega) (by omega)]; exact h2.2⟩, by rw [e (p + 23) (by omega) (by omega)]; exact h3, h4, fun i k n q hi hk hq => ?_⟩
  obtain ⟨d1, d2⟩ := h5 i k n q hi hk hq
  refine ⟨fun c => by rw [e (p + 18) (by omega) (by omega)]; exact d1 c, fun v hv => ?_⟩
  obtain ⟨bs, b1, b2⟩ := d2 v hv
  exact ⟨bs, b1, b2.up (Nat.le_refl _) (by rw [e (p + 18) (by omega) (by omega)]) (by rw [e (p + 20) (by omega) (by omega)]) (fun j _ => by rw [e (p + 24) (by omega) (by omega)])⟩
