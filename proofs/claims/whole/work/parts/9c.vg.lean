/-! ===== the reference's write ===== -/
theorem sSym_len {xs : List JR} {s : Nat} : ∀ (l : List Nat) (st st1 : SS), sSym xs s l st = .ok st1 → st1.ns.length = st.ns.length := by
  intro l
  induction l with
  | nil => intro st st1 h; cases h; rfl
  | cons a r ih =>
    intro st st1 h
    unfold sSym at h
    split at h
    · rw [ih _ _ h, sAdd_len]
    · exact nomatch h
section VGs
variable {l : Launch} {s0 : State} {a0 : Array Value} {G : va_G} {ca : Nat → ClassId} {d : Nat} {C : Nat × Nat} {S : zS} {M : zM} {Q : Int → zM → Prop} {X : zM → Prop} {xs : List JR} {v : Nat} {t : Int} {st st1 stF : SS} {A : Nat}
/-- a named shape -/
theorem r_wNmd (Γ : rt_Γ l s0 a0 G ca) {m : Nat} (hd : 4 * m + 33 ≤ d) (hok : zok C) (ht : zTx S t) (hw : jWf xs) (hI : rWr l s0 G ca C S xs t stF m) {sa : SS} {z k9 n : Nat} (hv : v < xs.length) (hk1 : (xx xs v).kd = 1) (hz : xMem xs v (iw [116, 121, 112, 101]) = some z) (hk9 : k9 = 9 ∨ k9 = 10 ∨ k9 = 11) (h : sNmd xs (sLook xs m) v k9 sa = .ok (n, st1)) (hg : gN sa stF) (hgs : gS st1 stF sa.ns.length st1.ns.length) (hT : rTx M t xs) (hC : rC M t xs stF) (hO : tO M t stF sa.ns.length) (h33 : M t 33 = (A : Int)) (hA : A + 2 * wv xs v ≤ 4201)
    (hQ : ∀ (M1 : zM) (A' : Nat), M1 t 33 = (A' : Int) → A' + 1 ≤ A + 2 * wv xs v → tO M1 t stF st1.ns.length → wfr t M M1 → Q 0 M1) : zm_X10_write l s0 G ca d C S t n M Q X := by
  have hlen := hC.len
  unfold sNmd at h
  split at h
  · exact nomatch h
  · rename_i s2 st2 h2
    obtain ⟨n9, hn9, hn3, g3, g4⟩ := sDfn_ok h2
    rw [g3, g4] at h
    clear h2 g3 g4
    have hn9l := (xMem_mem hw hv hn9).2.2
    have hw9 := wv_key hw hv hn9
    rw [if_pos hn3] at hw9
    have hw9' : 3 + 4 + (1 + (xx xs n9).ws.length) ≤ wv xs n9 := hw9
    have hwz := wv_key hw hv hz
    have hwz' : 3 + 4 ≤ wv xs z := by
      have : 3 + 4 + _ ≤ wv xs z := hwz
      omega
    have hat0 : (sNew sa k9 (some ((xx xs n9).ws, n9)) 0).ns[sa.ns.length]? = some (k9, some ((xx xs n9).ws, n9), -1, 0, []) := sNew_at
    have hl1 : sa.ns.length < (sNew sa k9 (some ((xx xs n9).ws, n9)) 0).ns.length := by rw [sNew_len]; omega
    have hl1e : (sNew sa k9 (some ((xx xs n9).ws, n9)) 0).ns.length = sa.ns.length + 1 := sNew_len
    have ne1 : ∀ {a b : Nat} {w1 w2 : List Int32}, xMem xs v w1 = some a → xMem xs v w2 = some b → ¬ w1 = w2 → ¬ a = b := fun ha hb hne e => by
      have q1 := (xFind_mem ha).2
      have q2 := (xFind_mem hb).2
      rw [e] at q1
      rw [q1] at q2
      exact hne (Option.some.inj q2)
    have three : ∀ {b : Nat} {w : List Int32}, xMem xs v w = some b → ¬ iw [110, 97, 109, 101] = w → ¬ iw [116, 121, 112, 101] = w → 2 + (wv xs n9 + (wv xs z + (wv xs b + 0))) ≤ wv xs v := fun hb e1 e2 => by
      have := wv_mems hw hv (l := [n9, z, _]) (List.pairwise_cons.mpr ⟨fun y hy => by
        rcases List.mem_cons.mp hy with e | e
        · rw [e]; exact ne1 hn9 hz (by decide)
        · rw [List.mem_singleton] at e; rw [e]; exact ne1 hn9 hb e1, List.pairwise_cons.mpr ⟨fun y hy => by rw [List.mem_singleton] at hy; rw [hy]; exact ne1 hz hb e2, List.pairwise_singleton _ _⟩⟩) (fun y hy => by
        rcases List.mem_cons.mp hy with e | e
        · rw [e]; exact (xFind_mem hn9).1
        · rcases List.mem_cons.mp e with e | e
          · rw [e]; exact (xFind_mem hz).1
          · rw [List.mem_singleton] at e; rw [e]; exact (xFind_mem hb).1)
      have h9 : 2 + jlw (xx xs v) + (wv xs n9 + (wv xs z + (wv xs _ + 0))) ≤ wv xs v := this
      omega
    by_cases e9 : k9 = 9
    · rw [if_pos e9] at h
      unfold sFix at h
      split at h
      · exact nomatch h
      · rename_i b hb
        split at h
        · rename_i hcz
          cases h
          have h3 := three hb (by decide) (by decide)
          have hwb := wv_key hw hv hb
          have hwb' : 3 + 4 ≤ wv xs b := by
            have : 3 + 4 + _ ≤ wv xs b := hwb
            omega
          have hat : (sDet (sNew sa k9 (some ((xx xs n9).ws, n9)) 0) (6 + sa.ns.length) (xx xs b).num.toInt).ns[sa.ns.length]? = some (k9, some ((xx xs n9).ws, n9), (xx xs b).num.toInt, 0, []) := by
            unfold sDet
            rw [nN_at hat0]
            exact nPut_at hat0
          have hlD : (sDet (sNew sa k9 (some ((xx xs n9).ws, n9)) 0) (6 + sa.ns.length) (xx xs b).num.toInt).ns.length = sa.ns.length + 1 := by
            rw [show (sDet (sNew sa k9 (some ((xx xs n9).ws, n9)) 0) (6 + sa.ns.length) (xx xs b).num.toInt).ns.length = (sNew sa k9 (some ((xx xs n9).ws, n9)) 0).ns.length from nPut_len]
            exact hl1e
          have hF := (hgs sa.ns.length (Nat.le_refl _) (by show sa.ns.length < (sDet _ (6 + sa.ns.length) _).ns.length; rw [hlD]; omega) (by show ¬ sa.ns.length = (sDet _ (6 + sa.ns.length) _).ns.length; rw [hlD]; omega)).trans hat
          have hilF := (List.getElem?_eq_some_iff.mp hF).1
          refine r_wNew Γ (by omega) hok ht hF (Or.inl e9) rfl hT hC hO h33 (by omega) (fun _ M1 f1 f2 f3 q56 h56 => ?_) (fun c => absurd (show k9 = 10 from c) (by omega)) (fun c => absurd (show k9 = 11 from c) (by omega)) (fun c => absurd e9 c)
          refine r_put (A := A + 8 + (xx xs n9).ws.length + 2) Γ (by omega) hok ht h56 f1 (by show A + 8 + (xx xs n9).ws.length + 2 + 23 ≤ 4200; omega) (fun M2 j1 j2 => ?_)
          have j1' : M2 t 33 = ((A + 8 + (xx xs n9).ws.length + 2 + 23 : Nat) : Int) := j1
          have fin : ∀ (B : Nat) (M3 : zM), M3 t 33 = (B : Int) → B ≤ A + 8 + (xx xs n9).ws.length + 2 + 24 → wf2 t M2 M3 → zt_X10_writeNamed_86 l s0 G ca (d - 1) C S (zw s0 ca C S M) t ((6 + sa.ns.length : Nat) : Int) M3 (fun r165 M165 => Q 0 M165) X := fun B M3 b1 b2 b3 => by
            unfold zt_X10_writeNamed_86
            refine ⟨⟨by omega, by omega⟩, ?_⟩
            refine r_fig (A := B) Γ hok ht b1 (by omega) (fun M4 c1 c2 => ?_)
            intro q100 h100
            refine r_put (A := B + 1) Γ (by omega) hok ht h100 c1 (by show B + 1 + 1 ≤ 4200; omega) (fun M5 d1 d2 => ?_)
            have hf5 : wf2 t M1 M5 := ((j2.tr b3).tr c2).tr d2
            refine hQ M5 (B + 1 + 1) d1 (by omega) ?_ (f2.tr hf5.w)
            show tO M5 t stF (sDet _ (6 + sa.ns.length) _).ns.length
            rw [hlD]
            exact f3.f hf5
          refine ⟨fun _ => fin _ M2 j1' (by omega) wf2.rf, fun _ => ?_⟩
          exact r_fig (A := A + 8 + (xx xs n9).ws.length + 2 + 23) Γ hok ht j1' (by omega) (fun M3 c1 c2 => fin _ M3 c1 (by omega) c2)
        · exact nomatch h
    · rw [if_neg e9] at h
      by_cases e10 : k9 = 10
      · rw [if_pos e10] at h
        unfold sEnm at h
        split at h
        · exact nomatch h
        · rename_i b hb
          split at h
          · rename_i hcb
            split at h
            · exact nomatch h
            · rename_i st3 h3s
              have h3 := three hb (by decide) (by decide)
              have hbl := (xMem_mem hw hv hb).2.2
              have hlC : (sCnt (sNew sa k9 (some ((xx xs n9).ws, n9)) 0) (6 + sa.ns.length) (xx xs b).len).ns.length = sa.ns.length + 1 := by rw [sCnt_len]; exact hl1e
              have hatC : (sCnt (sNew sa k9 (some ((xx xs n9).ws, n9)) 0) (6 + sa.ns.length) (xx xs b).len).ns[sa.ns.length]? = some (k9, some ((xx xs n9).ws, n9), -1, (xx xs b).len, []) := sCnt_at hat0
              obtain ⟨n1, p1, p2, p3, more, p4, p5⟩ := sSym_p (i := sa.ns.length) _ _ _ _ hatC h3s
              have hl3 := (sSym_ok (i0 := sa.ns.length) _ _ _ h3s).1
              have hl3b : st3.ns.length = sa.ns.length + 1 := by rw [sSym_len _ _ _ h3s]; exact hlC
              have hil3 := (List.getElem?_eq_some_iff.mp p1).1
              have hps : n1.ps = more := by rw [p4]; rfl
              have hst1 : n = 6 + sa.ns.length ∧ st1.ns.length = sa.ns.length + 1 ∧ ∃ n2 : SN, st1.ns[sa.ns.length]? = some n2 ∧ n2.kd = k9 ∧ n2.nm = some ((xx xs n9).ws, n9) ∧ n2.ps = more := by
                unfold sFbk at h
                split at h
                · cases h
                  exact ⟨rfl, hl3b, n1, p1, p2, p3, hps⟩
                · split at h
                  · split at h
                    · rename_i k7 hk7
                      cases h
                      refine ⟨rfl, ?_, (n1.kd, n1.nm, (k7 : Int), n1.ct, n1.ps), ?_, p2, p3, hps⟩
                      · show (nPut st3.ns (6 + sa.ns.length) _).length = _
                        rw [nPut_len]
                        exact hl3b
                      · show (sDet st3 (6 + sa.ns.length) (k7 : Int)).ns[sa.ns.length]? = _
                        unfold sDet
                        rw [nN_at p1]
                        exact nPut_at p1
                    · exact nomatch h
                  · exact nomatch h
              obtain ⟨rfl, hln, n2, m1, m2, m3, m4⟩ := hst1
              have hF := (hgs sa.ns.length (Nat.le_refl _) (by omega) (by omega)).trans m1
              have hsk := sSym_kd _ _ _ h3s
              have hyl := yS_le p5 (fun b' hb' => wv_str hw (xKids_mem hw hbl hb').2.2.1 (hsk b' hb'))
              have hkL := (jWf_at hw hbl).2.2.2.2.2.1 (Or.inr hcb.1)
              have hwk := wv_kids hkL
              have hwb := wv_own hw hbl
              have hjb : 8 ≤ jlw (xx xs b) := by
                rw [jlw_k, (xFind_mem hb).2]
                show 8 ≤ _ + (1 + 7)
                omega
              have hyl2 : yS more ≤ 2 * ((xx xs b).sz - 1) + wS xs (b + 1) ((xx xs b).sz - 1) := by
                rw [← hwk]
                exact hyl
              have hilF := (List.getElem?_eq_some_iff.mp hF).1
              refine r_wNew Γ (by omega) hok ht hF (Or.inr (Or.inl (m2.trans e10))) m3 hT hC hO h33 (by omega) (fun c => absurd (m2.symm.trans c) (by omega)) (fun _ M1 f1 f2 f3 => ?_) (fun c => absurd (m2.symm.trans c) (by omega)) (fun _ => by omega)
              have hch := (hC.2.2.1 _ n2 hF).2.2.2.2.1
              rw [m2.trans e10, m4] at hch
              have hk10 : M1 (t + 9) ((6 + sa.ns.length : Nat) : Int) = 10 := by
                rw [f2 _ _ (by omega) (by omega) (by omega), (hC.2.2.1 _ n2 hF).1, m2, e10]
                rfl
              rw [f2 (t + 12) _ (by omega) (by omega) (by omega)]
              refine r_wSym Γ (by omega) hok ht (by omega) more _ _ M1 (rCh.w hch f2) hk10 (hT.w f2) f1 (by omega) (fun M2 A2 j1 j2 j3 => hQ M2 A2 j1 (by omega) ?_ (f2.tr j3.w))
              rw [hln]
              exact f3.f j3
          · exact nomatch h
      · have e11 : k9 = 11 := by omega
        rw [if_neg e10] at h
        unfold sRec at h
        split at h
        · exact nomatch h
        · rename_i b hb
          split at h
          · rename_i hcb
            split at h
            · exact nomatch h
            · rename_i st3 h3s
              cases h
              have h3 := three hb (by decide) (by decide)
              have hbl := (xMem_mem hw hv hb).2.2
              have hlC : (sCnt (sNew sa k9 (some ((xx xs n9).ws, n9)) 0) (6 + sa.ns.length) (xx xs b).len).ns.length = sa.ns.length + 1 := by rw [sCnt_len]; exact hl1e
              have hatC : (sCnt (sNew sa k9 (some ((xx xs n9).ws, n9)) 0) (6 + sa.ns.length) (xx xs b).len).ns[sa.ns.length]? = some (k9, some ((xx xs n9).ws, n9), -1, (xx xs b).len, []) := sCnt_at hat0
              obtain ⟨n1, p1, p2, p3, more, p4⟩ := sFds_p (sLook_ok m) (i := sa.ns.length) _ _ _ _ hatC h3s
              have hb3 := sFds_ok (sLook_ok m) (i0 := sa.ns.length) _ _ _ h3s
              have hil3 := (List.getElem?_eq_some_iff.mp p1).1
              have hF0 := hgs sa.ns.length (Nat.le_refl _) hil3 (by omega)
              have hF := hF0.trans p1
              have hkL := (jWf_at hw hbl).2.2.2.2.2.1 (Or.inr hcb.1)
              rw [decide_eq_false (by omega)] at hkL
              have hwb := wv_own hw hbl
              have hjb : 7 ≤ jlw (xx xs b) := by
                rw [jlw_k, (xFind_mem hb).2]
                show 7 ≤ _ + (1 + 6)
                omega
              have hgC : gN (sCnt (sNew sa k9 (some ((xx xs n9).ws, n9)) 0) (6 + sa.ns.length) (xx xs b).len) stF := by
                unfold sCnt
                rw [nN_at hat0]
                exact (hg.new hF p2 p3).put hat0 rfl rfl
              have hilF := (List.getElem?_eq_some_iff.mp hF).1
              refine r_wNew Γ (by omega) hok ht hF (Or.inr (Or.inr (p2.trans e11))) p3 hT hC hO h33 (by omega) (fun c => absurd (p2.symm.trans c) (by show ¬ k9 = 9; omega)) (fun c => absurd (p2.symm.trans c) (by show ¬ k9 = 10; omega)) (fun _ M1 f1 f2 f3 => ?_) (fun _ => by omega)
              have hch := (hC.2.2.1 _ n1 hF).2.2.2.2.1
              have hk11 : n1.kd = 11 := p2.trans e11
              rw [hk11] at hch
              have hk11' : M1 (t + 9) ((6 + sa.ns.length : Nat) : Int) = 11 := by
                rw [f2 _ _ (by omega) (by omega) (by omega), (hC.2.2.1 _ n1 hF).1, hk11]
                rfl
              rw [f2 (t + 12) _ (by omega) (by omega) (by omega)]
              refine r_wFds Γ (by omega) hok ht hw hI (by omega) (xx xs b).len (b + 1) ((xx xs b).sz - 1) _ M1 (sCnt (sNew sa k9 (some ((xx xs n9).ws, n9)) 0) (6 + sa.ns.length) (xx xs b).len) st1 _ _ n1.ps hkL h3s hatC hF0 hF rfl (rCh.w hch f2) hk11' hgC (fun i' hb' hl' hne => hgs i' (by rw [hlC] at hb'; omega) hl' (by omega)) (hT.w f2) (hC.w f2) (by rw [hlC]; exact f3) f1 (by omega) (fun M2 A2 j1 j2 j3 j4 => hQ M2 A2 j1 (by omega) j3 (f2.tr j4))
          · exact nomatch h
end VGs
