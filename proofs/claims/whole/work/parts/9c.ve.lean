/-! ===== the reference writes the plain text: fields, all ===== -/
section VEs
variable {l : Launch} {s0 : State} {a0 : Array Value} {G : va_G} {ca : Nat → ClassId} {d : Nat} {C : Nat × Nat} {S : zS} {M : zM} {Q : Int → zM → Prop} {X : zM → Prop} {xs : List JR} {v : Nat} {t : Int} {st st1 stF : SS} {A : Nat}
theorem r_wFds (Γ : rt_Γ l s0 a0 G ca) {m : Nat} (hd : 4 * m + 31 ≤ d) (hok : zok C) (ht : zTx S t) (hw : jWf xs) (hI : rWr l s0 G ca C S xs t stF m) {w0 : rt_Wd} {i : Nat} (hi140 : 6 + i < 140) {nF : SN} : ∀ (c j nn A : Nat) (M : zM) (st st1 : SS) (n : SN) (h : Int) (rest : List SP), kidsL c (xs.drop j) nn false → sFds xs (sLook xs m) (6 + i) (xKid xs c j) st = .ok st1 → st.ns[i]? = some n → stF.ns[i]? = st1.ns[i]? → stF.ns[i]? = some nF → nF.ps = n.ps ++ rest → rCh M t xs 11 rest h → M (t + 9) ((6 + i : Nat) : Int) = 11 → gN st stF → gS st1 stF st.ns.length i → rTx M t xs → rC M t xs stF → tO M t stF st.ns.length → M t 33 = (A : Int) → A + 2 * (2 * nn + wS xs j nn) + 2 ≤ 4200 →
    (∀ (M1 : zM) (A' : Nat), M1 t 33 = (A' : Int) → A' ≤ A + 2 * (2 * nn + wS xs j nn) + 2 → tO M1 t stF st1.ns.length → wfr t M M1 → Q 0 M1) →
    zg_X10_writeNamed_138 l s0 G ca d C S w0 t ((6 + i : Nat) : Int) h M Q X := by
  intro c
  induction c with
  | zero =>
    intro j nn A M st st1 n h rest hk hB hi hF hnF hps hch h9 hg hgs hT hC hO h33 hA hQ
    cases hB
    rw [hF, hi] at hnF
    cases hnF
    have e : rest = [] := List.append_right_eq_self.mp hps.symm
    subst e
    have e2 : h = -1 := hch
    subst e2
    refine zs_X10_writeNamed_138 Γ (by omega) hok ht ?_
    unfold zt_X10_writeNamed_138
    refine ⟨fun _ q238 h238 => ?_, fun c => absurd (by decide) c⟩
    refine r_put Γ (by omega) hok ht h238 h33 (by show A + 2 ≤ 4200; omega) (fun M1 f1 f2 => hQ M1 (A + 2) f1 (by omega) (hO.f f2) f2.w)
  | succ c ih =>
    intro j nn A M st st1 n h rest hk hB hi hF hnF hps hch h9 hg hgs hT hC hO h33 hA hQ
    obtain ⟨g1, g2, g3, g4, g5, g6⟩ := kidsL_step hk
    have hwk := wv_kid (xs := xs) (i := j) (n := nn) g3
    have hX : sLx (sLook xs m) := sLook_ok m
    have hil := (List.getElem?_eq_some_iff.mp hi).1
    unfold xKid sFds at hB
    split at hB
    · exact nomatch hB
    · rename_i st3 hfl
      obtain ⟨b, tp, nd, df, st2, hb, htp, hbk, h2, e3, e3l, e3n⟩ := sFld_p hX hi hfl
      obtain ⟨-, -, hbl⟩ := xMem_mem hw g1 hb
      obtain ⟨-, -, htl⟩ := xMem_mem hw g1 htp
      have hbt : ¬ b = tp := fun e => by
        have k1 := (xFind_mem hb).2
        have k2 := (xFind_mem htp).2
        rw [e] at k1
        rw [k1] at k2
        exact absurd (Option.some.inj k2) (by decide)
      have hwt := wv_mems hw g1 (l := [b, tp]) (List.pairwise_cons.mpr ⟨fun y hy => by rw [List.mem_singleton] at hy; rw [hy]; exact hbt, List.pairwise_singleton _ _⟩) (fun y hy => by
        rcases List.mem_cons.mp hy with e | e
        · rw [e]; exact (xFind_mem hb).1
        · rw [List.mem_singleton] at e; rw [e]; exact (xFind_mem htp).1)
      have hwt2 : 2 + jlw (xx xs j) + (wv xs b + (wv xs tp + 0)) ≤ wv xs j := hwt
      have hwb := wv_key hw g1 hb
      rw [if_pos hbk] at hwb
      have hwb2 : 3 + 4 + (1 + (xx xs b).ws.length) ≤ wv xs b := hwb
      have hil3 : i < (sAdd st (6 + i) (xx xs b).ws none df).ns.length := by rw [sAdd_len]; exact hil
      obtain ⟨sx, hnd, -⟩ := hX _ _ _ _ _ h2
      have sx0 := sx
      obtain ⟨x1, x2, -⟩ := sx
      rw [sAdd_len] at x1
      obtain ⟨n1, p1, -, -, more, p4⟩ := sFds_p hX _ _ _ _ e3 hB
      have en : n1 = nF := by
        rw [hF, p1] at hnF
        exact Option.some.inj hnF
      have er : rest = ((xx xs b).ws, some nd, df, st.kc) :: more := by
        have : n.ps ++ rest = n.ps ++ (((xx xs b).ws, some nd, df, st.kc) :: more) := by
          rw [← hps, ← en, p4]
          show (n.ps ++ [_]) ++ more = _
          rw [List.append_assoc]
          rfl
        exact List.append_cancel_left this
      subst er
      obtain ⟨rfl, c2, c3, c4⟩ := hch
      have c2' : st.kc < 2200 := c2
      obtain ⟨u, y1, y2, y3, y4⟩ := c3.2.1 (Or.inr rfl)
      have y4' : (xx xs u).ws = (xx xs b).ws := y4
      have hb3 := sFds_ok hX _ _ _ hB
      have hgs2 : gS st2 stF (sAdd st (6 + i) (xx xs b).ws none df).ns.length st2.ns.length := fun i' hb' hl' _ => by
        rw [sAdd_len] at hb'
        have hne : ¬ i' = i := by omega
        have hl3 : i' < st3.ns.length := by rw [e3l]; exact hl'
        rw [hgs i' hb' (Nat.lt_of_lt_of_le hl3 hb3.1) hne, hb3.2.1 i' hl3 hne]
        exact e3n i' hne
      have hgA : gN (sAdd st (6 + i) (xx xs b).ws none df) stF := hg.add hil
      have hgN2 : gN st2 stF := hgA.look sx0 (fun i' hb' hl' => hgs2 i' hb' hl' (by omega))
      have hi2 : st2.ns[i]? = some (n.kd, n.nm, n.dt, n.ct, n.ps ++ [((xx xs b).ws, none, df, st.kc)]) := by
        rw [x2 i hil3]
        unfold sAdd
        rw [nN_at hi]
        exact nPut_at hi
      have hgN3 : gN st3 stF := fun i' m' hm' => by
        by_cases ci : i' = i
        · subst ci
          rw [e3] at hm'
          cases hm'
          exact hg i' n hi
        · rw [e3n i' ci] at hm'
          exact hgN2 i' m' hm'
      have hO2 : tO M t stF (sAdd st (6 + i) (xx xs b).ws none df).ns.length := by rw [sAdd_len]; exact hO
      refine zs_X10_writeNamed_138 Γ (by omega) hok ht ?_
      unfold zt_X10_writeNamed_138 zt_X10_writeNamed_160 zt_X10_writeNamed_205 zt_X10_writeNamed_224
      have eK : SP.kn ((xx xs b).ws, some nd, df, st.kc) = st.kc := rfl
      rw [eK] at y1 c4 ⊢
      rw [w32_id (x := ((st.kc : Nat) : Int)) (by omega) (by omega), h9]
      refine ⟨fun c9 => by omega, fun _ => ⟨⟨by omega, by omega⟩, zIf_t (by decide) ?_⟩⟩
      intro q154 h154
      refine r_put Γ (by omega) hok ht h154 h33 (by show A + 8 ≤ 4200; omega) (fun M1 f1 f2 => ⟨⟨by omega, by omega⟩, ?_⟩)
      have f1' : M1 t 33 = ((A + 8 : Nat) : Int) := f1
      rw [f2 (t + 16) _ (by omega) (by omega), y1]
      refine r_name (A := A + 8) Γ (by omega) hok ht (hT.w f2.w) y2 y3 f1' (by rw [y4']; omega) (fun M2 j1 j2 => ?_)
      rw [y4'] at j1
      have hf2 := f2.tr j2
      rw [hf2 (t + 9) _ (by omega) (by omega), h9]
      refine ⟨⟨by omega, by omega⟩, zIf_t (by decide) ?_⟩
      intro q182 h182
      refine r_put (A := A + 8 + (xx xs b).ws.length + 2) Γ (by omega) hok ht h182 j1 (by show A + 8 + (xx xs b).ws.length + 2 + 8 ≤ 4200; omega) (fun M3 k1 k2 => ?_)
      have k1' : M3 t 33 = ((A + 8 + (xx xs b).ws.length + 2 + 8 : Nat) : Int) := k1
      have hf3 := hf2.tr k2
      have e15 : M3 (t + 15) ((st.kc : Nat) : Int) = (nd : Int) := by
        rw [hf3 _ _ (by omega) (by omega)]
        exact c3.1 nd rfl
      rw [e15]
      refine hI (d - 1) tp false _ st2 nd _ M3 _ X (by omega) htl h2 hgA hgs2 (hT.w hf3.w) (hC.w hf3.w) (hO2.f hf3) k1' (by omega) (fun M4 A4 r1 r2 r3 r4 => ?_)
      intro q199 h199
      refine r_put (A := A4) Γ (by omega) hok ht h199 r1 (by show A4 + 1 ≤ 4200; omega) (fun M5 s1 s2 => ?_)
      have s1' : M5 t 33 = ((A4 + 1 : Nat) : Int) := s1
      have hf5 : wfr t M M5 := (hf3.w.tr r4).tr s2.w
      have hch5 : rCh M5 t xs 11 more (M5 (t + 18) ((st.kc : Nat) : Int)) := by
        rw [hf5 _ _ (by omega) (by omega) (by omega)]
        exact rCh.w c4 hf5
      refine ⟨⟨by omega, by omega⟩, ?_⟩
      have nxt : ∀ (q : Nat) (wb : List Int), zstr s0 q wb → wb.length ≤ 1 → zm_X10_put l s0 G ca (d - 1) C S t q M5 (fun r224 M224 => (0 ≤ ((st.kc : Nat) : Int) ∧ ((st.kc : Nat) : Int) < 2200) ∧ (zg_X10_writeNamed_138 l s0 G ca d C S w0 t ((6 + i : Nat) : Int) (M224 (t + 18) ((st.kc : Nat) : Int)) M224 Q X)) X := fun q wb hq hl => by
        refine r_put (A := A4 + 1) Γ (by omega) hok ht hq s1' (by omega) (fun M6 v1 v2 => ⟨⟨by omega, by omega⟩, ?_⟩)
        have hfw : wfr t M M6 := hf5.tr v2.w
        have hch6 : rCh M6 t xs 11 more (M6 (t + 18) ((st.kc : Nat) : Int)) := by
          rw [v2 _ _ (by omega) (by omega)]
          exact rCh.w hch5 v2.w
        have hpsn : nF.ps = (n.ps ++ [((xx xs b).ws, some nd, df, st.kc)]) ++ more := by rw [← en, p4]
        refine ih (j + (xx xs j).sz) (nn - (xx xs j).sz) (A4 + 1 + wb.length) M6 st3 st1 _ _ more g6 hB e3 hF hnF hpsn hch6 (by rw [hfw _ _ (by omega) (by omega) (by omega)]; exact h9) hgN3 (fun i' hb' hl' hne => hgs i' (by rw [e3l] at hb'; omega) hl' hne) (hT.w hfw) (hC.w hfw) (by rw [e3l]; exact (r3.f s2).f v2) v1 (by omega) (fun M7 A7 w1 w2 w3 w4 => hQ M7 A7 w1 (by omega) w3 (hfw.tr w4))
      exact ⟨fun _ q221 h221 => nxt _ _ h221 (Nat.zero_le _), fun _ q215 h215 => nxt _ _ h215 (Nat.le_refl _)⟩
end VEs
