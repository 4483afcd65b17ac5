/-! ===== the reference writes the plain text: unions, symbols, fields ===== -/
/-- write keeps its promise, m levels from the deepest -/
def rWr (l : Launch) (s0 : State) (G : va_G) (ca : Nat → ClassId) (C : Nat × Nat) (S : zS) (xs : List JR) (t : Int) (stF : SS) (m : Nat) : Prop :=
  ∀ (d v : Nat) (br : Bool) (st st1 : SS) (n A : Nat) (M : zM) (Q : Int → zM → Prop) (X : zM → Prop), 4 * m + 30 ≤ d → v < xs.length → sLook xs m v br st = .ok (n, st1) → gN st stF → gS st1 stF st.ns.length st1.ns.length → rTx M t xs → rC M t xs stF → tO M t stF st.ns.length → M t 33 = (A : Int) → A + 2 * wv xs v ≤ 4201 →
    (∀ (M1 : zM) (A' : Nat), M1 t 33 = (A' : Int) → A' + 1 ≤ A + 2 * wv xs v → tO M1 t stF st1.ns.length → wfr t M M1 → Q 0 M1) → zm_X10_write l s0 G ca d C S t n M Q X
section VDs
variable {l : Launch} {s0 : State} {a0 : Array Value} {G : va_G} {ca : Nat → ClassId} {d : Nat} {C : Nat × Nat} {S : zS} {M : zM} {Q : Int → zM → Prop} {X : zM → Prop} {xs : List JR} {v : Nat} {t : Int} {st st1 stF : SS} {A : Nat}
theorem rCh.w {M1 : zM} {kd : Nat} {ps : List SP} {h : Int} (hc : rCh M t xs kd ps h) (hf : wfr t M M1) : rCh M1 t xs kd ps h := hc.mono (fun q _ a h1 h2 => hf _ _ (by omega) (by omega) (by omega))
theorem r_wBrn (Γ : rt_Γ l s0 a0 G ca) {m : Nat} (hd : 4 * m + 31 ≤ d) (hok : zok C) (ht : zTx S t) (hI : rWr l s0 G ca C S xs t stF m) {w0 : rt_Wd} {i : Nat} {nF : SN} : ∀ (c j nn A : Nat) (M : zM) (st st1 : SS) (n : SN) (h : Int) (rest : List SP), kidsL c (xs.drop j) nn false → sBrn xs (sLook xs m) (6 + i) (xKid xs c j) st = .ok st1 → st.ns[i]? = some n → stF.ns[i]? = st1.ns[i]? → stF.ns[i]? = some nF → nF.ps = n.ps ++ rest → rCh M t xs 8 rest h → gN st stF → gS st1 stF st.ns.length i → rTx M t xs → rC M t xs stF → tO M t stF st.ns.length → M t 33 = (A : Int) → A + 2 * (2 * nn + wS xs j nn) + 1 ≤ 4200 →
    (∀ (M1 : zM) (A' : Nat), M1 t 33 = (A' : Int) → A' ≤ A + 2 * (2 * nn + wS xs j nn) + 1 → tO M1 t stF st1.ns.length → wfr t M M1 → Q 0 M1) →
    zg_X10_write_107 l s0 G ca d C S w0 t h M Q X := by
  intro c
  induction c with
  | zero =>
    intro j nn A M st st1 n h rest hk hB hi hF hnF hps hch hg hgs hT hC hO h33 hA hQ
    cases hB
    rw [hF, hi] at hnF
    cases hnF
    have e : rest = [] := List.append_right_eq_self.mp hps.symm
    subst e
    have e2 : h = -1 := hch
    subst e2
    refine zs_X10_write_107 Γ (by omega) hok ht ?_
    unfold zt_X10_write_107
    refine ⟨fun _ q154 h154 => ?_, fun c => absurd (by decide) c⟩
    refine r_put Γ (by omega) hok ht h154 h33 (by show A + 1 ≤ 4200; omega) (fun M1 f1 f2 => hQ M1 (A + 1) f1 (by omega) (hO.f f2) f2.w)
  | succ c ih =>
    intro j nn A M st st1 n h rest hk hB hi hF hnF hps hch hg hgs hT hC hO h33 hA hQ
    obtain ⟨g1, g2, g3, g4, g5, g6⟩ := kidsL_step hk
    have hwk := wv_kid (xs := xs) (i := j) (n := nn) g3
    have hX : sLx (sLook xs m) := sLook_ok m
    have hil := (List.getElem?_eq_some_iff.mp hi).1
    unfold xKid sBrn at hB
    split at hB
    · exact nomatch hB
    · rename_i nd st2 h2
      split at hB
      · exact nomatch hB
      · obtain ⟨sx, hnd, -⟩ := hX _ _ _ _ _ h2
        have sx0 := sx
        obtain ⟨x1, x2, -⟩ := sx
        have hi2 := (x2 i hil).trans hi
        have hil2 := (List.getElem?_eq_some_iff.mp hi2).1
        have e3 : (sAdd st2 (6 + i) [] (some nd) none).ns[i]? = some (n.kd, n.nm, n.dt, n.ct, n.ps ++ [([], some nd, none, st2.kc)]) := by
          unfold sAdd
          rw [nN_at hi2]
          exact nPut_at hi2
        have e3n : ∀ i' : Nat, ¬ i' = i → (sAdd st2 (6 + i) [] (some nd) none).ns[i']? = st2.ns[i']? := fun i' h' => by
          unfold sAdd
          exact nPut_ne h'
        have e3l : (sAdd st2 (6 + i) [] (some nd) none).ns.length = st2.ns.length := sAdd_len
        obtain ⟨n1, p1, -, -, more, p4⟩ := sBrn_p hX _ _ _ _ e3 hB
        have en : n1 = nF := by
          rw [hF, p1] at hnF
          exact Option.some.inj hnF
        have er : rest = ([], some nd, none, st2.kc) :: more := by
          have : n.ps ++ rest = n.ps ++ (([], some nd, none, st2.kc) :: more) := by
            rw [← hps, ← en, p4]
            show (n.ps ++ [_]) ++ more = _
            rw [List.append_assoc]
            rfl
          exact List.append_cancel_left this
        subst er
        obtain ⟨rfl, c2, c3, c4⟩ := hch
        have hb3 := sBrn_ok hX _ _ _ hB
        have hgs2 : gS st2 stF st.ns.length st2.ns.length := fun i' hb' hl' _ => by
          have hne : ¬ i' = i := by omega
          have hl3 : i' < (sAdd st2 (6 + i) [] (some nd) none).ns.length := by rw [e3l]; exact hl'
          rw [hgs i' hb' (Nat.lt_of_lt_of_le hl3 hb3.1) hne, hb3.2.1 i' hl3 hne]
          exact e3n i' hne
        have hgN2 : gN st2 stF := hg.look sx0 (fun i' hb' hl' => hgs2 i' hb' hl' (by omega))
        refine zs_X10_write_107 Γ (by omega) hok ht ?_
        unfold zt_X10_write_107 zt_X10_write_140
        show zIf (w32 ((st2.kc : Nat) : Int) < 0) _ ((0 ≤ ((st2.kc : Nat) : Int) ∧ ((st2.kc : Nat) : Int) < 2200) ∧ zm_X10_write l s0 G ca (d - 1) C S t (M (t + 15) ((st2.kc : Nat) : Int)) M _ X)
        have c2' : st2.kc < 2200 := c2
        rw [w32_id (x := ((st2.kc : Nat) : Int)) (by omega) (by omega), show M (t + 15) ((st2.kc : Nat) : Int) = (nd : Int) from c3.1 nd rfl]
        refine ⟨fun c9 => by omega, fun _ => ⟨⟨by omega, by omega⟩, ?_⟩⟩
        refine hI (d - 1) j true st st2 nd A M _ X (by omega) g1 h2 hg hgs2 hT hC hO h33 (by omega) (fun M1 A1 f1 f2 f3 f4 => ?_)
        have hch1 : rCh M1 t xs 8 more (M1 (t + 18) ((st2.kc : Nat) : Int)) := by
          rw [f4 _ _ (by omega) (by omega) (by omega)]
          exact rCh.w c4 f4
        have nxt : ∀ (q : Nat) (wb : List Int), zstr s0 q wb → wb.length ≤ 1 → zm_X10_put l s0 G ca (d - 1) C S t q M1 (fun r140 M140 => (0 ≤ ((st2.kc : Nat) : Int) ∧ ((st2.kc : Nat) : Int) < 2200) ∧ (zg_X10_write_107 l s0 G ca d C S w0 t (M140 (t + 18) ((st2.kc : Nat) : Int)) M140 Q X)) X := fun q wb hq hl => by
          refine r_put Γ (by omega) hok ht hq f1 (by omega) (fun M2 j1 j2 => ⟨⟨by omega, by omega⟩, ?_⟩)
          have hch2 : rCh M2 t xs 8 more (M2 (t + 18) ((st2.kc : Nat) : Int)) := by
            rw [j2 _ _ (by omega) (by omega)]
            exact rCh.w hch1 j2.w
          have hfw : wfr t M M2 := f4.tr j2.w
          have hpsn : nF.ps = (n.ps ++ [([], some nd, none, st2.kc)]) ++ more := by rw [← en, p4]
          refine ih (j + (xx xs j).sz) (nn - (xx xs j).sz) (A1 + wb.length) M2 _ st1 _ _ more g6 hB e3 hF hnF hpsn hch2 (hgN2.add hil2) (fun i' hb' hl' hne => hgs i' (by rw [e3l] at hb'; omega) hl' hne) (hT.w hfw) (hC.w hfw) (by rw [e3l]; exact f3.f j2) j1 (by omega) (fun M3 A3 k1 k2 k3 k4 => hQ M3 A3 k1 (by omega) k3 (hfw.tr k4))
        exact ⟨fun _ q137 h137 => nxt _ _ h137 (Nat.zero_le _), fun _ q131 h131 => nxt _ _ h131 (Nat.le_refl _)⟩
/-- what the symbols' names take -/
def yS : List SP → Nat
  | [] => 0
  | q :: r => q.nm.length + 3 + yS r
theorem r_wSym (Γ : rt_Γ l s0 a0 G ca) (hd : 10 ≤ d) (hok : zok C) (ht : zTx S t) {s : Nat} (hs : s < 140) {w0 : rt_Wd} : ∀ (rest : List SP) (h : Int) (A : Nat) (M : zM), rCh M t xs 10 rest h → M (t + 9) (s : Int) = 10 → rTx M t xs → M t 33 = (A : Int) → A + yS rest + 2 ≤ 4200 →
    (∀ (M1 : zM) (A' : Nat), M1 t 33 = (A' : Int) → A' ≤ A + yS rest + 2 → wf2 t M M1 → Q 0 M1) → zg_X10_writeNamed_138 l s0 G ca d C S w0 t s h M Q X := by
  intro rest
  induction rest with
  | nil =>
    intro h A M hch h9 hT h33 hA hQ
    have e2 : h = -1 := hch
    subst e2
    refine zs_X10_writeNamed_138 Γ (by omega) hok ht ?_
    unfold zt_X10_writeNamed_138
    refine ⟨fun _ q238 h238 => ?_, fun c => absurd (by decide) c⟩
    refine r_put Γ (by omega) hok ht h238 h33 (by show A + 2 ≤ 4200; omega) (fun M1 f1 f2 => hQ M1 (A + 2) f1 (by omega) f2)
  | cons q r ih =>
    intro h A M hch h9 hT h33 hA hQ
    obtain ⟨rfl, c2, ⟨-, c3, -⟩, c4⟩ := hch
    obtain ⟨u, y1, y2, y3, y4⟩ := c3 (Or.inl rfl)
    have hy : yS (q :: r) = q.nm.length + 3 + yS r := rfl
    refine zs_X10_writeNamed_138 Γ (by omega) hok ht ?_
    unfold zt_X10_writeNamed_138 zt_X10_writeNamed_160 zt_X10_writeNamed_205 zt_X10_writeNamed_224
    rw [w32_id (x := ((q.kn : Nat) : Int)) (by omega) (by omega), h9, y1]
    refine ⟨fun c9 => by omega, fun _ => ⟨⟨by omega, by omega⟩, zIf_f (by decide) ⟨⟨by omega, by omega⟩, ?_⟩⟩⟩
    refine r_name Γ (by omega) hok ht hT y2 y3 h33 (by rw [y4]; omega) (fun M1 f1 f2 => ?_)
    rw [y4] at f1
    rw [f2 (t + 9) _ (by omega) (by omega), h9]
    refine ⟨⟨by omega, by omega⟩, zIf_f (by decide) ⟨⟨by omega, by omega⟩, ?_⟩⟩
    have nxt : ∀ (q9 : Nat) (wb : List Int), zstr s0 q9 wb → wb.length ≤ 1 → zm_X10_put l s0 G ca (d - 1) C S t q9 M1 (fun r224 M224 => (0 ≤ ((q.kn : Nat) : Int) ∧ ((q.kn : Nat) : Int) < 2200) ∧ (zg_X10_writeNamed_138 l s0 G ca d C S w0 t s (M224 (t + 18) ((q.kn : Nat) : Int)) M224 Q X)) X := fun q9 wb hq hl => by
      refine r_put Γ (by omega) hok ht hq f1 (by omega) (fun M2 j1 j2 => ⟨⟨by omega, by omega⟩, ?_⟩)
      have hfw := f2.tr j2
      rw [hfw (t + 18) _ (by omega) (by omega)]
      exact ih _ (A + q.nm.length + 2 + wb.length) M2 (rCh.w c4 hfw.w) (by rw [hfw _ _ (by omega) (by omega)]; exact h9) (hT.w hfw.w) j1 (by omega) (fun M3 A3 k1 k2 k3 => hQ M3 A3 k1 (by omega) (hfw.tr k3))
    exact ⟨fun _ q221 h221 => nxt _ _ h221 (Nat.zero_le _), fun _ q215 h215 => nxt _ _ h215 (Nat.le_refl _)⟩
end VDs
