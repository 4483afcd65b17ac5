/-! ===== the reference's write ends within its room ===== -/
section VFs
variable {l : Launch} {s0 : State} {a0 : Array Value} {G : va_G} {ca : Nat → ClassId} {d : Nat} {C : Nat × Nat} {S : zS} {M : zM} {Q : Int → zM → Prop} {X : zM → Prop} {xs : List JR} {v : Nat} {t : Int} {st st1 stF : SS} {A : Nat}
theorem yS_le {xs : List JR} : ∀ {l : List Nat} {ps : List SP}, ps.map (fun q => q.nm) = l.map (fun b => (xx xs b).ws) → (∀ b ∈ l, 3 + (xx xs b).ws.length ≤ wv xs b) → yS ps ≤ lSum (wv xs) l := by
  intro l
  induction l with
  | nil =>
    intro ps h _
    cases ps with
    | nil => exact Nat.le_refl _
    | cons q r => exact nomatch h
  | cons b l ih =>
    intro ps h hb
    cases ps with
    | nil => exact nomatch h
    | cons q r =>
      rw [List.map_cons, List.map_cons] at h
      obtain ⟨e1, e2⟩ := List.cons.inj h
      have h1 := ih e2 (fun b' hb' => hb b' (List.mem_cons_of_mem _ hb'))
      have h2 := hb b List.mem_cons_self
      have e3 : q.nm = (xx xs b).ws := e1
      show q.nm.length + 3 + yS r ≤ wv xs b + lSum (wv xs) l
      rw [e3]
      omega
theorem wv_kids {xs : List JR} {o : Bool} : ∀ {c i n : Nat}, kidsL c (xs.drop i) n o → lSum (wv xs) (xKid xs c i) = 2 * n + wS xs i n := by
  intro c
  induction c with
  | zero =>
    intro i n h
    have e : n = 0 := h
    subst e
    rfl
  | succ c ih =>
    intro i n h
    obtain ⟨g1, g2, g3, -, -, g6⟩ := kidsL_step h
    show wv xs i + lSum (wv xs) (xKid xs c (i + (xx xs i).sz)) = _
    rw [ih g6, wv_kid g3]
/-- a value's own weight, and a string's letters -/
theorem wv_str {xs : List JR} (hw : jWf xs) (hv : v < xs.length) (hk : (xx xs v).kd = 3) : 3 + (xx xs v).ws.length ≤ wv xs v := by
  rw [wv_own hw hv, jlw_k, if_pos hk]
  omega
theorem sSym_kd {xs : List JR} {s : Nat} : ∀ (l : List Nat) (st st1 : SS), sSym xs s l st = .ok st1 → ∀ b ∈ l, (xx xs b).kd = 3 := by
  intro l
  induction l with
  | nil => intro st st1 _ b hb; exact nomatch hb
  | cons a r ih =>
    intro st st1 h b hb
    unfold sSym at h
    split at h
    · rename_i hc
      rcases List.mem_cons.mp hb with e | e
      · rw [e]; exact hc.1
      · exact ih _ _ h b e
    · exact nomatch h
/-- a named node that was not told: its name, and then what it is -/
theorem r_wNew (Γ : rt_Γ l s0 a0 G ca) (hd : 10 ≤ d) (hok : zok C) (ht : zTx S t) {i n9 : Nat} {nF : SN} (hF : stF.ns[i]? = some nF) (hkd : nF.kd = 9 ∨ nF.kd = 10 ∨ nF.kd = 11) (hnm : nF.nm = some ((xx xs n9).ws, n9)) (hT : rTx M t xs) (hC : rC M t xs stF) (hO : tO M t stF i) (h33 : M t 33 = (A : Int)) (hA : A + 8 + (xx xs n9).ws.length + 2 ≤ 4200)
    (k9 : nF.kd = 9 → ∀ M1 : zM, M1 t 33 = ((A + 8 + (xx xs n9).ws.length + 2 : Nat) : Int) → wfr t M M1 → tO M1 t stF (i + 1) → ∀ q56 : Nat, zstr s0 q56 [44, 34, 116, 121, 112, 101, 34, 58, 34, 102, 105, 120, 101, 100, 34, 44, 34, 115, 105, 122, 101, 34, 58] → (zm_X10_put l s0 G ca (d - 1 - 1) C S t q56 M1 (fun r59 M59 => zIf (w32 (M59 (t + 11) ((6 + i : Nat) : Int)) ≤ 9) (zt_X10_writeNamed_86 l s0 G ca (d - 1) C S (zw s0 ca C S M) t ((6 + i : Nat) : Int) M59 (fun r165 M165 => Q 0 M165) X) (zm_X10_figure l s0 G ca (d - 1 - 1) C S t (zdiv (M59 (t + 11) ((6 + i : Nat) : Int)) 10) M59 (fun r83 M83 => zt_X10_writeNamed_86 l s0 G ca (d - 1) C S (zw s0 ca C S M) t ((6 + i : Nat) : Int) M83 (fun r165 M165 => Q 0 M165) X) X)) X))
    (k10 : nF.kd = 10 → ∀ M1 : zM, M1 t 33 = ((A + 8 + (xx xs n9).ws.length + 2 + 26 : Nat) : Int) → wfr t M M1 → tO M1 t stF (i + 1) → zg_X10_writeNamed_138 l s0 G ca (d - 1) C S (zw s0 ca C S M) t ((6 + i : Nat) : Int) (M1 (t + 12) ((6 + i : Nat) : Int)) M1 (fun r165 M165 => Q 0 M165) X)
    (k11 : nF.kd = 11 → ∀ M1 : zM, M1 t 33 = ((A + 8 + (xx xs n9).ws.length + 2 + 27 : Nat) : Int) → wfr t M M1 → tO M1 t stF (i + 1) → zg_X10_writeNamed_138 l s0 G ca (d - 1) C S (zw s0 ca C S M) t ((6 + i : Nat) : Int) (M1 (t + 12) ((6 + i : Nat) : Int)) M1 (fun r165 M165 => Q 0 M165) X)
    (hA2 : ¬ nF.kd = 9 → A + 8 + (xx xs n9).ws.length + 2 + 27 ≤ 4200) : zm_X10_write l s0 G ca d C S t ((6 + i : Nat) : Int) M Q X := by
  have hilF := (List.getElem?_eq_some_iff.mp hF).1
  have hlen := hC.len
  have hrN := hC.2.2.1 i nF hF
  obtain ⟨y1, y2, y3, y4⟩ := hrN.2.2.1 (xx xs n9).ws n9 hnm
  have ekd : M (t + 9) ((6 + i : Nat) : Int) = (nF.kd : Int) := hrN.1
  have htold := hO i nF hF (by rw [hnm]; exact fun e => nomatch e)
  rw [if_neg (Nat.lt_irrefl i)] at htold
  refine z_X10_write Γ (by omega) hok ht ?_
  unfold zt_X10_write
  rw [ekd, w32_id (x := (nF.kd : Int)) (by omega) (by omega)]
  have nmd : zm_X10_writeNamed l s0 G ca (d - 1) C S t ((6 + i : Nat) : Int) M (fun r165 M165 => Q 0 M165) X := by
    refine z_X10_writeNamed Γ (by omega) hok ht ?_
    unfold zt_X10_writeNamed
    rw [htold]
    refine ⟨⟨by omega, by omega⟩, zIf_t (by decide) ?_⟩
    intro q28 h28
    have fz : wfr t M (zu M (t + 21) ((6 + i : Nat) : Int) 1) := fun a j n1 n2 n3 => zu_a n3
    refine r_put Γ (by omega) hok ht h28 (A := A) (by rw [zu_a (by omega)]; exact h33) (by show A + 8 ≤ 4200; omega) (fun M1 f1 f2 => ?_)
    have f1' : M1 t 33 = ((A + 8 : Nat) : Int) := f1
    have fw1 : wfr t M M1 := fz.tr f2.w
    rw [fw1 (t + 10) _ (by omega) (by omega) (by omega), y1]
    refine r_name (A := A + 8) Γ (by omega) hok ht (hT.w fw1) y2 y3 f1' (by omega) (fun M2 g1 g2 => ?_)
    have fw2 : wfr t M M2 := fw1.tr g2.w
    have hO2 : tO M2 t stF (i + 1) := (hO.tell.f f2).f g2
    rw [fw2 (t + 9) _ (by omega) (by omega) (by omega), ekd, w32_id (x := (nF.kd : Int)) (by omega) (by omega)]
    refine ⟨fun c9 => k9 (by omega) M2 g1 fw2 hO2, fun c9 => ⟨fun c10 q119 h119 => ?_, fun c10 q125 h125 => ?_⟩⟩
    · have h9 := hA2 (by omega)
      refine r_put (A := A + 8 + (xx xs n9).ws.length + 2) Γ (by omega) hok ht h119 g1 (by show A + 8 + (xx xs n9).ws.length + 2 + 26 ≤ 4200; omega) (fun M3 j1 j2 => ?_)
      exact k10 (by omega) M3 j1 (fw2.tr j2.w) (hO2.f j2)
    · have h9 := hA2 (by omega)
      refine r_put (A := A + 8 + (xx xs n9).ws.length + 2) Γ (by omega) hok ht h125 g1 (by show A + 8 + (xx xs n9).ws.length + 2 + 27 ≤ 4200; omega) (fun M3 j1 j2 => ?_)
      exact k11 (by omega) M3 j1 (fw2.tr j2.w) (hO2.f j2)
  exact ⟨⟨by omega, by omega⟩, zIf_f (by omega) (zIf_f (by omega) (zIf_f (by omega) ⟨fun _ => nmd, fun c9 => ⟨fun _ => nmd, fun c10 => ⟨fun _ => nmd, fun c11 => absurd hkd (by omega)⟩⟩⟩))⟩
end VFs
