/-! ===== the reference's write: all ===== -/
section VHs
variable {l : Launch} {s0 : State} {a0 : Array Value} {G : va_G} {ca : Nat → ClassId} {d : Nat} {C : Nat × Nat} {S : zS} {M : zM} {Q : Int → zM → Prop} {X : zM → Prop} {xs : List JR} {v : Nat} {t : Int} {st st1 stF : SS} {A : Nat}
theorem r_wItm (Γ : rt_Γ l s0 a0 G ca) {m : Nat} (hd : 4 * m + 33 ≤ d) (hok : zok C) (ht : zTx S t) (hw : jWf xs) (hI : rWr l s0 G ca C S xs t stF m) {sa : SS} {kd n : Nat} {wk : List Int32} (hv : v < xs.length) (hkd : kd = 6 ∨ kd = 7) (hwk : 5 ≤ wk.length) {z : Nat} (hz : xMem xs v (iw [116, 121, 112, 101]) = some z) (hzk : (xx xs z).kd = 3) (hz3 : 3 ≤ (xx xs z).ws.length) (hne : ¬ iw [116, 121, 112, 101] = wk) (h : sItm xs (sLook xs m) v kd wk sa = .ok (n, st1)) (hg : gN sa stF) (hgs : gS st1 stF sa.ns.length st1.ns.length) (hT : rTx M t xs) (hC : rC M t xs stF) (hO : tO M t stF sa.ns.length) (h33 : M t 33 = (A : Int)) (hA : A + 2 * wv xs v ≤ 4201)
    (hQ : ∀ (M1 : zM) (A' : Nat), M1 t 33 = (A' : Int) → A' + 1 ≤ A + 2 * wv xs v → tO M1 t stF st1.ns.length → wfr t M M1 → Q 0 M1) : zm_X10_write l s0 G ca d C S t n M Q X := by
  have hlen := hC.len
  unfold sItm at h
  split at h
  · exact nomatch h
  · rename_i b hb
    split at h
    · exact nomatch h
    · rename_i nd st2 h2
      cases h
      have hbl := (xMem_mem hw hv hb).2.2
      have hzb : ¬ z = b := fun e => by
        have q1 := (xFind_mem hz).2
        have q2 := (xFind_mem hb).2
        rw [e] at q1
        rw [q1] at q2
        exact hne (Option.some.inj q2)
      have hwt := wv_mems hw hv (l := [z, b]) (List.pairwise_cons.mpr ⟨fun y hy => by rw [List.mem_singleton] at hy; rw [hy]; exact hzb, List.pairwise_singleton _ _⟩) (fun y hy => by
        rcases List.mem_cons.mp hy with e | e
        · rw [e]; exact (xFind_mem hz).1
        · rw [List.mem_singleton] at e; rw [e]; exact (xFind_mem hb).1)
      have hwt2 : 2 + jlw (xx xs v) + (wv xs z + (wv xs b + 0)) ≤ wv xs v := hwt
      have hwz := wv_key hw hv hz
      rw [if_pos hzk] at hwz
      have hwz2 : 3 + 4 + (1 + (xx xs z).ws.length) ≤ wv xs z := hwz
      have h2' : sLook xs m b false (sAdd (sNew sa kd none 0) (6 + sa.ns.length) [] none none) = .ok (nd, st2) := h2
      have hl1 : sa.ns.length < (sNew sa kd none 0).ns.length := by rw [sNew_len]; omega
      have hlA : (sAdd (sNew sa kd none 0) (6 + sa.ns.length) [] none none).ns.length = sa.ns.length + 1 := by rw [sAdd_len, sNew_len]
      have hatA : (sAdd (sNew sa kd none 0) (6 + sa.ns.length) [] none none).ns[sa.ns.length]? = some (kd, none, -1, 0, [([], none, none, (sNew sa kd none 0).kc)]) := by
        unfold sAdd
        rw [nN_at sNew_at]
        exact nPut_at sNew_at
      obtain ⟨sx, hnd, -⟩ := sLook_ok m _ _ _ _ _ h2'
      have hlx := sx.1
      rw [hlA] at hlx
      have hi2 := (sx.2.1 sa.ns.length (by rw [hlA]; omega)).trans hatA
      have hat1 : (sPut st2 (6 + sa.ns.length) 0 nd).ns[sa.ns.length]? = some (kd, none, -1, 0, [([], some nd, none, (sNew sa kd none 0).kc)]) := by
        unfold sPut
        rw [nN_at hi2]
        exact nPut_at hi2
      have hl9 : (sPut st2 (6 + sa.ns.length) 0 nd).ns.length = st2.ns.length := nPut_len
      have hne9 : ∀ i' : Nat, ¬ i' = sa.ns.length → (sPut st2 (6 + sa.ns.length) 0 nd).ns[i']? = st2.ns[i']? := fun i' h' => nPut_ne h'
      have hgs' : gS (sPut st2 (6 + sa.ns.length) 0 nd) stF sa.ns.length st2.ns.length := fun i' a1 a2 a3 => hgs i' a1 a2 (by show ¬ i' = (sPut st2 (6 + sa.ns.length) 0 nd).ns.length; rw [hl9]; exact a3)
      have hF := (hgs' sa.ns.length (Nat.le_refl _) (by rw [hl9]; omega) (by omega)).trans hat1
      have hilF := (List.getElem?_eq_some_iff.mp hF).1
      have hgA : gN (sAdd (sNew sa kd none 0) (6 + sa.ns.length) [] none none) stF := (hg.new hF rfl rfl).add hl1
      have hgs2 : gS st2 stF (sAdd (sNew sa kd none 0) (6 + sa.ns.length) [] none none).ns.length st2.ns.length := fun i' a1 a2 a3 => by
        rw [hlA] at a1
        have := hgs' i' (by omega) (by rw [hl9]; exact a2) a3
        rw [this]
        exact hne9 i' (by omega)
      have hO2 : tO M t stF (sAdd (sNew sa kd none 0) (6 + sa.ns.length) [] none none).ns.length := by
        rw [hlA]
        exact hO.skip hF rfl
      have hrN := hC.2.2.1 _ _ hF
      have hch := hrN.2.2.2.2.1
      obtain ⟨c1, c2, c3, -⟩ := hch
      have c2' : (sNew sa kd none 0).kc < 2200 := c2
      have c1' : M (t + 12) ((6 + sa.ns.length : Nat) : Int) = (((sNew sa kd none 0).kc : Nat) : Int) := c1
      have c3' : M (t + 15) (((sNew sa kd none 0).kc : Nat) : Int) = (nd : Int) := c3.1 nd rfl
      have ekd : M (t + 9) ((6 + sa.ns.length : Nat) : Int) = (kd : Int) := hrN.1
      have go : ∀ (q : Nat) (wb : List Int), zstr s0 q wb → wb.length ≤ 24 → zt_X10_write_65 l s0 G ca d C S (zw s0 ca C S M) t ((6 + sa.ns.length : Nat) : Int) q wb M Q X := fun q wb hq hl => by
        unfold zt_X10_write_65
        refine r_put Γ (by omega) hok ht hq h33 (by omega) (fun M1 f1 f2 => ⟨⟨by omega, by omega⟩, ?_⟩)
        rw [f2 (t + 12) _ (by omega) (by omega), c1', f2 (t + 15) _ (by omega) (by omega), c3']
        refine ⟨⟨by omega, by omega⟩, ?_⟩
        refine hI (d - 1) b false _ st2 nd _ M1 _ X (by omega) hbl h2' hgA hgs2 (hT.w f2.w) (hC.w f2.w) (hO2.f f2) f1 (by omega) (fun M2 A2 g1 g2 g3 g4 => ?_)
        intro q84 h84
        refine r_put (A := A2) Γ (by omega) hok ht h84 g1 (by show A2 + 1 ≤ 4200; omega) (fun M3 j1 j2 => ?_)
        refine hQ M3 (A2 + 1) j1 (by omega) ?_ ((f2.w.tr g4).tr j2.w)
        show tO M3 t stF (sPut st2 (6 + sa.ns.length) 0 nd).ns.length
        rw [hl9]
        exact g3.f j2
      show zm_X10_write l s0 G ca d C S t ((6 + sa.ns.length : Nat) : Int) M Q X
      refine z_X10_write Γ (by omega) hok ht ?_
      unfold zt_X10_write
      rw [ekd, w32_id (x := (kd : Int)) (by omega) (by omega)]
      refine ⟨⟨by omega, by omega⟩, fun c6 => ⟨fun _ q56 h56 => go _ _ h56 (Nat.le_refl _), fun c => absurd c6 c⟩, fun c6 => ⟨fun c7 => ⟨fun c => absurd c c6, fun _ q62 h62 => go _ _ h62 (Nat.le_succ 23)⟩, fun c7 => absurd hkd (by omega)⟩⟩
theorem sCom_len {w : List Int32} {n : Nat} (h : sCom w = some n) : 3 ≤ w.length := by
  unfold sCom at h
  split at h
  · rename_i e; rw [e]; decide
  · split at h
    · rename_i e; rw [e]; decide
    · split at h
      · rename_i e; rw [e]; decide
      · split at h
        · rename_i e; rw [e]; decide
        · split at h
          · rename_i e; rw [e]; decide
          · exact nomatch h
theorem r_write (Γ : rt_Γ l s0 a0 G ca) (hok : zok C) (ht : zTx S t) (hw : jWf xs) (hNm : kNm stF) : ∀ m : Nat, rWr l s0 G ca C S xs t stF m := by
  intro m
  induction m with
  | zero =>
    intro d v br st st1 n A M Q X hd hv h
    unfold sLook at h
    split at h
    · exact nomatch h
    · exact nomatch h
  | succ m ih =>
    intro d v br st st1 n A M Q X hd hv h hg hgs hT hC hO h33 hA hQ
    have hlen := hC.len
    unfold sLook at h
    have hg1 : gN (st.lk + 1, st.2) stF := hg
    have eL1 : (SS.ns (st.lk + 1, st.2)) = st.ns := rfl
    rw [← eL1] at hgs hO
    clear hg
    split at h
    · exact nomatch h
    · dsimp only at h
      generalize ((st.lk + 1, st.2) : SS) = sa at h hg1 hgs hO
      clear eL1
      have hwo := wv_own hw hv
      split at h
      · rename_i hk3
        have hs := wv_str hw hv hk3
        refine r_wKnw Γ (by omega) hok ht hk3 h hg1 hNm hT hC hO h33 (by omega) (fun M1 f1 f2 => hQ M1 _ f1 (by omega) ?_ f2.w)
        rw [(sKnw_ok h).1]
        exact hO.f f2
      · split at h
        · rename_i hk2
          split at h
          · exact nomatch h
          · unfold sUni at h
            split at h
            · split at h
              · exact nomatch h
              · rename_i st2 h2
                cases h
                obtain ⟨n1, p1, p2, p3, more, p4⟩ := sBrn_p (sLook_ok m) (i := (SS.ns sa).length) _ _ _ _ sNew_at h2
                have hil1 := (List.getElem?_eq_some_iff.mp p1).1
                have hF0 := hgs (SS.ns sa).length (Nat.le_refl _) hil1 (by omega)
                have hF := hF0.trans p1
                have hilF := (List.getElem?_eq_some_iff.mp hF).1
                have hkL := (jWf_at hw hv).2.2.2.2.2.1 (Or.inr hk2)
                rw [decide_eq_false (by omega)] at hkL
                have hrN := hC.2.2.1 _ _ hF
                have hch := hrN.2.2.2.2.1
                have ekd : M (t + 9) ((6 + (SS.ns sa).length : Nat) : Int) = ((8 : Nat) : Int) := by rw [hrN.1, p2]
                rw [p2] at hch
                show zm_X10_write l s0 G ca d C S t ((6 + (SS.ns sa).length : Nat) : Int) M Q X
                refine z_X10_write Γ (by omega) hok ht ?_
                unfold zt_X10_write
                rw [ekd]
                refine ⟨⟨by omega, by omega⟩, zIf_f (by decide) (zIf_f (by decide) (zIf_t (by decide) ?_))⟩
                intro q94 h94
                refine r_put Γ (by omega) hok ht h94 h33 (by show A + 1 ≤ 4200; omega) (fun M1 f1 f2 => ?_)
                have f1' : M1 t 33 = ((A + 1 : Nat) : Int) := f1
                rw [f2 (t + 12) _ (by omega) (by omega)]
                refine r_wBrn Γ (by omega) hok ht ih (i := (SS.ns sa).length) (xx xs v).len (v + 1) ((xx xs v).sz - 1) (A + 1) M1 (sNew sa 8 none (xx xs v).len) _ _ _ n1.ps hkL h2 sNew_at hF0 hF rfl (rCh.w hch f2.w) (hg1.new hF p2 p3) (fun i' a1 a2 a3 => hgs i' (by rw [sNew_len] at a1; omega) a2 (by omega)) (hT.w f2.w) (hC.w f2.w) (by rw [sNew_len]; exact (hO.skip hF p3).f f2) f1' (by omega) (fun M2 A2 j1 j2 j3 j4 => hQ M2 A2 j1 (by omega) j3 (f2.w.tr j4))
            · exact nomatch h
        · split at h
          · rename_i hk1
            unfold sObj at h
            split at h
            · exact nomatch h
            · rename_i z hz
              split at h
              · rename_i hzk
                have hzl := (xMem_mem hw hv hz).2.2
                split at h
                · have hwt := wv_mems hw hv (l := [z]) (List.pairwise_singleton _ _) (fun y hy => by rw [List.mem_singleton] at hy; rw [hy]; exact (xFind_mem hz).1)
                  have hwt2 : 2 + jlw (xx xs v) + (wv xs z + 0) ≤ wv xs v := hwt
                  have hs := wv_str hw hzl hzk
                  refine r_wKnw Γ (by omega) hok ht hzk h hg1 hNm hT hC hO h33 (by omega) (fun M1 f1 f2 => hQ M1 _ f1 (by omega) ?_ f2.w)
                  rw [(sKnw_ok h).1]
                  exact hO.f f2
                · rename_i k9 hk9
                  have hz3 := sCom_len hk9
                  split at h
                  · exact r_wItm Γ (by omega) hok ht hw ih hv (Or.inl rfl) (by decide) hz hzk hz3 (by decide) h hg1 hgs hT hC hO h33 hA hQ
                  · split at h
                    · exact r_wItm Γ (by omega) hok ht hw ih hv (Or.inr rfl) (by decide) hz hzk hz3 (by decide) h hg1 hgs hT hC hO h33 hA hQ
                    · exact r_wNmd Γ (by omega) hok ht hw ih hv hk1 hz (by have := (sCom_lt hk9).2; omega) h hg1 hgs hT hC hO h33 hA hQ
              · exact nomatch h
          · exact nomatch h
end VHs
