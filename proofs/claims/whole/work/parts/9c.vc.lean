/-! ===== the reference writes the plain text: a name or one of the six ===== -/
theorem sSix_len {w : List Int32} {n : Nat} (h : sSix w = some n) : (n = 0 ∧ w.length = 4) ∨ (n = 1 ∧ w.length = 7) ∨ (n = 2 ∧ w.length = 3) ∨ (n = 3 ∧ w.length = 4) ∨ (n = 4 ∧ w.length = 5) ∨ (n = 5 ∧ w.length = 6) := by
  unfold sSix at h
  split at h
  · rename_i e; cases h; rw [e]; exact Or.inl ⟨rfl, rfl⟩
  · split at h
    · rename_i e; cases h; rw [e]; exact Or.inr (Or.inl ⟨rfl, rfl⟩)
    · split at h
      · rename_i e; cases h; rw [e]; exact Or.inr (Or.inr (Or.inl ⟨rfl, rfl⟩))
      · split at h
        · rename_i e; cases h; rw [e]; exact Or.inr (Or.inr (Or.inr (Or.inl ⟨rfl, rfl⟩)))
        · split at h
          · rename_i e; cases h; rw [e]; exact Or.inr (Or.inr (Or.inr (Or.inr (Or.inl ⟨rfl, rfl⟩))))
          · split at h
            · rename_i e; cases h; rw [e]; exact Or.inr (Or.inr (Or.inr (Or.inr (Or.inr ⟨rfl, rfl⟩))))
            · exact nomatch h
theorem sDefL_at (w : List Int32) : ∀ (r : List SN) (s k : Nat), sDefL w r s = some k → ∃ (i : Nat) (n : SN) (v : Nat), r[i]? = some n ∧ k = s + i ∧ n.nm = some (w, v) := by
  intro r
  induction r with
  | nil => intro s k h; exact nomatch h
  | cons a r ih =>
    intro s k h
    unfold sDefL at h
    split at h
    · rename_i hm
      cases h
      cases hn : a.nm with
      | none => rw [hn] at hm; exact nomatch hm
      | some q =>
        rw [hn] at hm
        obtain ⟨w2, v2⟩ := q
        have : w2 = w := Option.some.inj hm
        exact ⟨0, a, v2, rfl, rfl, by rw [hn, this]⟩
    · obtain ⟨i, n, v, h1, h2, h3⟩ := ih _ _ h
      exact ⟨i + 1, n, v, h1, by omega, h3⟩
section VCs
variable {l : Launch} {s0 : State} {a0 : Array Value} {G : va_G} {ca : Nat → ClassId} {d : Nat} {C : Nat × Nat} {S : zS} {M : zM} {Q : Int → zM → Prop} {X : zM → Prop} {xs : List JR} {v : Nat} {t : Int} {st st1 stF : SS} {A : Nat}
theorem r_wSix (Γ : rt_Γ l s0 a0 G ca) (hd : 9 ≤ d) (hok : zok C) (ht : zTx S t) (hC : rC M t xs stF) {n k : Nat} (hn : n < 6) (hk : (n = 0 ∧ k = 4) ∨ (n = 1 ∧ k = 7) ∨ (n = 2 ∧ k = 3) ∨ (n = 3 ∧ k = 4) ∨ (n = 4 ∧ k = 5) ∨ (n = 5 ∧ k = 6)) (h33 : M t 33 = (A : Int)) (hA : A + k + 2 ≤ 4200) (hQ : ∀ M1 : zM, M1 t 33 = ((A + k + 2 : Nat) : Int) → wf2 t M M1 → Q 0 M1) : zm_X10_write l s0 G ca d C S t n M Q X := by
  refine z_X10_write Γ (by omega) hok ht ?_
  unfold zt_X10_write
  have e9 : M (t + 9) (n : Int) = (n : Int) := (hC.2.1 n hn).1
  rw [e9, w32_id (x := (n : Int)) (by omega) (by omega)]
  refine ⟨⟨by omega, by omega⟩, zIf_f (by omega) (zIf_f (by omega) (zIf_f (by omega) (zIf_f (by omega) (zIf_f (by omega) (zIf_f (by omega) ?_)))))⟩
  intro q172 h172
  refine r_put Γ (by omega) hok ht h172 h33 (by show A + 1 ≤ 4200; omega) (fun M1 f1 f2 => ?_)
  have e91 : M1 (t + 9) (n : Int) = (n : Int) := by rw [f2 _ _ (by omega) (by omega)]; exact e9
  rw [e91, w32_id (x := (n : Int)) (by omega) (by omega)]
  have fin : ∀ (q : Nat) (wb : List Int), zstr s0 q wb → wb.length = k → zm_X10_put l s0 G ca (d - 1) C S t q M1 (fun r255 M255 => ∀ q259 : Nat, zstr s0 q259 [34] → (zm_X10_put l s0 G ca (d - 1) C S t q259 M255 (fun r262 M262 => Q 0 M262) X)) X := fun q wb hq hl => by
    refine r_put (A := A + 1) Γ (by omega) hok ht hq f1 (by omega) (fun M2 g1 g2 q259 h259 => ?_)
    refine r_put (A := A + 1 + wb.length) Γ (by omega) hok ht h259 g1 (by show A + 1 + wb.length + 1 ≤ 4200; omega) (fun M3 j1 j2 => hQ M3 ?_ ((f2.tr g2).tr j2))
    have j3 : M3 t 33 = ((A + 1 + wb.length + 1 : Nat) : Int) := j1
    rw [j3]
    omega
  refine ⟨fun c q188 h188 => fin _ _ h188 (show 4 = k by omega), fun c0 => ⟨fun c q203 h203 => fin _ _ h203 (show 7 = k by omega), fun c1 => ⟨fun c q218 h218 => fin _ _ h218 (show 3 = k by omega), fun c2 => ⟨fun c q233 h233 => fin _ _ h233 (show 4 = k by omega), fun c3 => ⟨fun c q248 h248 => fin _ _ h248 (show 5 = k by omega), fun c4 q253 h253 => fin _ _ h253 (show 6 = k by omega)⟩⟩⟩⟩⟩
theorem r_wKnw (Γ : rt_Γ l s0 a0 G ca) (hd : 9 ≤ d) (hok : zok C) (ht : zTx S t) {n : Nat} (hk3 : (xx xs v).kd = 3) (h : sKnw xs st v = .ok (n, st1)) (hgN : gN st stF) (hNm : kNm stF) (hT : rTx M t xs) (hC : rC M t xs stF) (hO : tO M t stF st.ns.length) (h33 : M t 33 = (A : Int)) (hA : A + (xx xs v).ws.length + 2 ≤ 4200) (hQ : ∀ M1 : zM, M1 t 33 = ((A + (xx xs v).ws.length + 2 : Nat) : Int) → wf2 t M M1 → Q 0 M1) : zm_X10_write l s0 G ca d C S t n M Q X := by
  unfold sKnw at h
  cases hs : sSix (xx xs v).ws with
  | some k =>
    rw [hs] at h
    cases h
    exact r_wSix Γ hd hok ht hC (sSix_lt hs) (sSix_len hs) h33 hA hQ
  | none =>
    rw [hs] at h
    dsimp only at h
    cases hdf : sDef st.ns (xx xs v).ws with
    | none => rw [hdf] at h; exact nomatch h
    | some k =>
      rw [hdf] at h
      cases h
      obtain ⟨i, nd, v2, h1, rfl, h3⟩ := sDefL_at _ _ _ _ hdf
      obtain ⟨nF, f1, f2, f3⟩ := hgN i nd h1
      have hil := (List.getElem?_eq_some_iff.mp h1).1
      have hilF := (List.getElem?_eq_some_iff.mp f1).1
      have hlen := hC.len
      have hnm : ¬ nF.nm = none := by rw [f3, h3]; exact fun e => nomatch e
      have hkd := hNm i nF f1 hnm
      have hrN := hC.2.2.1 i nF f1
      obtain ⟨y1, y2, y3, y4⟩ := hrN.2.2.1 (xx xs v).ws v2 (f3.trans h3)
      have ekd : M (t + 9) ((6 + i : Nat) : Int) = (nF.kd : Int) := hrN.1
      have htold := hO i nF f1 hnm
      rw [if_pos hil] at htold
      refine z_X10_write Γ (by omega) hok ht ?_
      unfold zt_X10_write
      rw [ekd, w32_id (x := (nF.kd : Int)) (by omega) (by omega)]
      have nmd : zm_X10_writeNamed l s0 G ca (d - 1) C S t ((6 + i : Nat) : Int) M (fun r165 M165 => Q 0 M165) X := by
        refine z_X10_writeNamed Γ (by omega) hok ht ?_
        unfold zt_X10_writeNamed
        rw [htold, y1]
        refine ⟨⟨by omega, by omega⟩, zIf_f (by decide) ?_⟩
        rw [← y4] at hA hQ
        exact r_name Γ (by omega) hok ht hT y2 y3 h33 hA hQ
      exact ⟨⟨by omega, by omega⟩, zIf_f (by omega) (zIf_f (by omega) (zIf_f (by omega) ⟨fun _ => nmd, fun c9 => ⟨fun _ => nmd, fun c10 => ⟨fun _ => nmd, fun c11 => absurd hkd (by omega)⟩⟩⟩))⟩
end VCs
