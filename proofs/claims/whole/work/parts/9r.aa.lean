/-! ===== what is told are bytes ===== -/
def bN (w : List Nat) : Prop := ∀ x ∈ w, x < 256
theorem bN.nil : bN [] := fun x h => nomatch h
theorem bN.app {a b : List Nat} (h : bN a) (h1 : bN b) : bN (a ++ b) := fun x hx => (List.mem_append.mp hx).elim (h x) (h1 x)
theorem bN.one {b : Nat} (h : b < 256) : bN [b] := fun x hx => by rw [List.mem_singleton.mp hx]; exact h
theorem bN.vB (n : Int) : bN (vB n) := fun x hx => uB_lt hx
theorem bN.l {a b : List Nat} (h : bN (a ++ b)) : bN a := fun x hx => h x (List.mem_append.mpr (Or.inl hx))
theorem bN.r {a b : List Nat} (h : bN (a ++ b)) : bN b := fun x hx => h x (List.mem_append.mpr (Or.inr hx))
theorem bN.flat {L : List (List Nat)} (h : ∀ w ∈ L, bN w) : bN L.flatten := fun x hx => by
  obtain ⟨w, h1, h2⟩ := List.mem_flatten.mp hx
  exact h w h1 x h2
theorem yNs.b {w : List Nat} (h : yNs w) : bN w := by
  obtain ⟨s, rfl, -, h3⟩ := h
  exact (bN.vB _).app h3
theorem yNk.b {mp : Bool} {w : List Nat} (h : yNk mp w) : bN w := by
  unfold yNk at h
  split at h
  · exact h.b
  · rw [h]; exact bN.nil
theorem yNi_b {f : List Nat → Prop} {mp : Bool} (hf : ∀ w, f w → bN w) : ∀ {c : Nat} {w : List Nat}, yNi f mp c w → bN w := by
  intro c
  induction c with
  | zero => intro w h; have : w = [] := h; rw [this]; exact bN.nil
  | succ c ih =>
    intro w h
    obtain ⟨k, i, r, rfl, h1, h2, h3⟩ := h
    exact h1.b.app ((hf i h2).app (ih h3))
theorem yNf_b {f : Nat → List Nat → Prop} (hf : ∀ s w, f s w → bN w) : ∀ {ps : List SP} {w : List Nat}, yNf f ps w → bN w := by
  intro ps
  induction ps with
  | nil => intro w h; have : w = [] := h; rw [this]; exact bN.nil
  | cons q l ih =>
    intro w h
    obtain ⟨i, r, rfl, h1, h2⟩ := h
    exact (hf _ i h1).app (ih h2)
theorem yHd_b {c : Nat} {w : List Nat} (h : bN w) : bN (yHd c w) := by
  unfold yHd
  split
  · exact h.app (bN.vB _)
  · exact ((bN.vB _).app h).app (bN.vB _)
theorem yN_b {ns : List SN} : ∀ {m s : Nat} {w : List Nat}, yN ns m s w → bN w := by
  intro m
  induction m with
  | zero => intro s w h; exact h.elim
  | succ m ih =>
    intro s w h
    have h : yNb (yN ns m) ns s w := h
    unfold yNb at h
    split at h
    · rw [h]; exact bN.nil
    split at h
    · obtain ⟨x, rfl, hx⟩ := h
      exact bN.one (by omega)
    split at h
    · obtain ⟨n, rfl, -⟩ := h
      exact bN.vB n
    split at h
    · exact h.b
    split at h
    · exact h.2
    split at h
    · obtain ⟨n, rfl, -⟩ := h
      exact bN.vB _
    split at h
    · obtain ⟨n, r, rfl, -, h2⟩ := h
      exact (bN.vB _).app (ih h2)
    split at h
    · exact yNf_b (fun s w => ih) h
    · obtain ⟨c, r, rfl, -, h2⟩ := h
      exact yHd_b (yNi_b (fun w => ih) h2)
theorem tSq_b {a b : tU} (ha : bN a.1) (hb : bN b.1) : bN (tSq a b).1 := by
  unfold tSq
  split
  · exact ha
  · exact ha.app hb
theorem tIt_b {f : List Nat → tU → Prop} {mp : Bool} (hf : ∀ w o, f w o → bN o.1) : ∀ {c : Nat} {w : List Nat} {o : tU}, tIt f mp c w o → bN o.1 := by
  intro c
  induction c with
  | zero => intro w o h; rw [h.2]; exact bN.nil
  | succ c ih =>
    intro w o h
    obtain ⟨k, i, r, o1, o2, -, h1, h2, h3, rfl⟩ := h
    exact tSq_b h1.b (tSq_b (hf i o1 h2) (ih h3))
theorem tRf_b {f : Nat → Nat → List Nat → tU → Prop} {dB : SP → Option (List Nat)} (hf : ∀ w r b o, f w r b o → bN o.1) (hd : ∀ q b, dB q = some b → bN b) {ps : List SP} {L : List (List Nat)} : ∀ {l : List SP} {o : tU}, tRf f dB ps L l o → bN o.1 := by
  intro l
  induction l with
  | nil => intro o h; have : o = ([], false) := h; rw [this]; exact bN.nil
  | cons q l ih =>
    intro o h
    obtain ⟨o1, o2, h1, h2, rfl⟩ := h
    refine tSq_b ?_ (ih h2)
    cases hs : sPrt ps q.nm with
    | none =>
      rw [h1.2 hs]
      unfold tDf
      cases hb : dB q with
      | none => exact bN.nil
      | some b => exact hd q b hb
    | some i =>
      obtain ⟨a, b, -, -, h3⟩ := h1.1 i hs
      exact hf _ _ _ _ h3
theorem tSy_b (r : SN) (w : List Int32) : bN (tSy r w).1 := by
  unfold tSy
  split
  · exact bN.vB _
  · split
    · exact bN.vB _
    · exact bN.nil
theorem tPl_b {A B : List SN} {dB : SP → Option (List Nat)} {f : Nat → Nat → List Nat → tU → Prop} {g : Nat → List Nat → Prop} (hf : ∀ w r b o, f w r b o → bN o.1) (hd : ∀ q b, dB q = some b → bN b) {w r : Nat} {bs : List Nat} {o : tU} (hb : bN bs) (h : tPl A B dB f g w r bs o) : bN o.1 := by
  unfold tPl at h
  split at h
  · split at h
    · obtain ⟨c, rest, o1, -, -, h1, rfl⟩ := h
      split
      · exact (show bN (vB 0) from bN.vB 0)
      · exact tSq_b (show bN (vB (c : Int)) from bN.vB _) (tSq_b (tIt_b (fun w o => hf _ _ w o) h1) (show bN (vB 0) from bN.vB 0))
    · rw [h]; exact bN.nil
  · split at h
    · split at h
      · obtain ⟨L, -, -, h1⟩ := h
        exact tRf_b hf hd h1
      · split at h
        · obtain ⟨n, z, -, -, rfl⟩ := h
          exact tSy_b _ _
        · rw [h]; exact hb
    · rw [h]; exact bN.nil
theorem tT_b {A B : List SN} {dB : SP → Option (List Nat)} (hd : ∀ q b, dB q = some b → bN b) : ∀ {m w r : Nat} {bs : List Nat} {o : tU}, tT A B dB m w r bs o → bN o.1 := by
  intro m
  induction m with
  | zero => intro w r bs o h; exact h.elim
  | succ m ih =>
    intro w r bs o h
    obtain ⟨hy, h⟩ := h
    have hb := yN_b hy
    unfold tBd at h
    split at h
    · obtain ⟨n, rest, -, -, h1⟩ := h
      exact ih h1
    · split at h
      · cases hf : tFst A B w r with
        | none => rw [h.1 hf]; exact bN.nil
        | some k =>
          obtain ⟨o1, h1, rfl⟩ := h.2 k hf
          exact tSq_b (bN.vB _) (tPl_b (fun w r b o => ih) hd hb h1)
      · exact tPl_b (fun w r b o => ih) hd hb h
theorem sCat_b {f : Nat → Except Nat (List Nat)} (hf : ∀ j b, f j = .ok b → bN b) : ∀ {l : List Nat} {b : List Nat}, sCat f l = .ok b → bN b := by
  intro l
  induction l with
  | nil => intro b h; injection h with h; rw [← h]; exact bN.nil
  | cons j r ih =>
    intro b h
    unfold sCat at h
    cases h1 : f j with
    | error e => rw [h1] at h; exact nomatch h
    | ok b1 =>
      rw [h1] at h
      obtain ⟨b2, h2, rfl⟩ := sMap_ok h
      exact (hf j b1 h1).app (ih h2)
theorem sFlw_b {xs : List JR} {v : Nat} {f : Nat → Nat → Except Nat (List Nat)} (hf : ∀ j s b, f j s = .ok b → bN b) : ∀ {l : List SP} {b : List Nat}, sFlw xs v f l = .ok b → bN b := by
  intro l
  induction l with
  | nil => intro b h; injection h with h; rw [← h]; exact bN.nil
  | cons q r ih =>
    intro b h
    unfold sFlw at h
    cases h1 : xMem xs v q.nm with
    | none => rw [h1] at h; exact nomatch h
    | some j =>
      rw [h1] at h
      dsimp only at h
      cases h2 : f j (sPn (some q)) with
      | error e => rw [h2] at h; exact nomatch h
      | ok b1 =>
        rw [h2] at h
        obtain ⟨b2, h3, rfl⟩ := sMap_ok h
        exact (hf _ _ b1 h2).app (ih h3)
theorem sLtr_b {ws : List Int32} (h : ∀ c ∈ ws, 0 ≤ c.toInt ∧ c.toInt < 256) : bN (sLtr ws) := fun x hx => by
  obtain ⟨c, h1, rfl⟩ := List.mem_map.mp hx
  have := h c h1
  omega
theorem sStr_b {ws : List Int32} (h : ∀ c ∈ ws, 0 ≤ c.toInt ∧ c.toInt < 256) : bN (sStr ws) := (bN.vB _).app (sLtr_b h)
theorem sItb_b {n : Nat} {b : List Nat} (h : bN b) : bN (sItb n b) := by
  unfold sItb
  refine bN.app (bN.app ?_ h) (bN.one (by decide))
  split
  · exact bN.vB _
  · exact bN.nil
theorem sPla_b {ns : List SN} {x : JR} (hx : x.kd = 3 → ∀ c ∈ x.ws, 0 ≤ c.toInt ∧ c.toInt < 256) {s : Nat} {b : List Nat} (h : sPla ns x s = some b) : bN b := by
  unfold sPla at h
  split at h
  · split at h
    · injection h with h; rw [← h]; exact bN.nil
    · exact nomatch h
  split at h
  · split at h
    · injection h with h; rw [← h]; exact bN.one (by decide)
    · split at h
      · injection h with h; rw [← h]; exact bN.one (by decide)
      · exact nomatch h
  split at h
  · split at h
    · injection h with h; rw [← h]; exact bN.vB _
    · exact nomatch h
  split at h
  · split at h
    · injection h with h; rw [← h]; exact bN.vB _
    · exact nomatch h
  split at h
  · split at h
    · rename_i hk; injection h with h; rw [← h]; exact sStr_b (hx hk)
    · exact nomatch h
  split at h
  · split at h
    · rename_i hk; injection h with h; rw [← h]; exact sLtr_b (hx hk.1)
    · exact nomatch h
  split at h
  · split at h
    · split at h
      · exact nomatch h
      · injection h with h; rw [← h]; exact bN.vB _
    · exact nomatch h
  · exact nomatch h
theorem sKyb_b {xs : List JR} {j : Nat} (hx : ∀ k : List Int32, (xx xs j).kw = some k → ∀ c ∈ k, 0 ≤ c.toInt ∧ c.toInt < 256) : bN (sKyb xs j) := by
  unfold sKyb
  split
  · exact bN.nil
  · rename_i k hk
    exact sStr_b (hx k hk)
theorem sDv_b {xs : List JR} {ns : List SN} (h3 : ∀ i : Nat, (xx xs i).kd = 3 → ∀ c ∈ (xx xs i).ws, 0 ≤ c.toInt ∧ c.toInt < 256) (hk : ∀ (i : Nat) (k : List Int32), (xx xs i).kw = some k → ∀ c ∈ k, 0 ≤ c.toInt ∧ c.toInt < 256) : ∀ {m v s : Nat} {b : List Nat}, sDv xs ns m v s = .ok b → bN b := by
  intro m
  induction m with
  | zero => intro v s b h; exact nomatch h
  | succ m ih =>
    intro v s b h
    unfold sDv at h
    obtain ⟨c, h1, rfl⟩ := sMap_ok h
    refine bN.app ?_ ?_
    · split
      · exact bN.one (by decide)
      · exact bN.nil
    · generalize (if (nN ns s).kd = 8 then sKid0 ns s else s) = s2 at h1
      unfold sDw at h1
      split at h1
      · split at h1
        · obtain ⟨c2, h2, rfl⟩ := sMap_ok h1
          exact sItb_b (sCat_b (fun j b => ih) h2)
        · exact nomatch h1
      split at h1
      · split at h1
        · obtain ⟨c2, h2, rfl⟩ := sMap_ok h1
          refine sItb_b (sCat_b (fun j b hj => ?_) h2)
          obtain ⟨c3, h4, rfl⟩ := sMap_ok hj
          exact (sKyb_b (hk j)).app (ih h4)
        · exact nomatch h1
      split at h1
      · split at h1
        · exact sFlw_b (fun j s b => ih) h1
        · exact nomatch h1
      · split at h1
        · exact nomatch h1
        · rename_i b2 hb2
          injection h1 with h1
          rw [← h1]
          exact sPla_b (h3 v) hb2
