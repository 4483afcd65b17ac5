/-! ===== the reference tells a row, and passes over rows ===== -/
section IC9
variable {l : Launch} {s0 : State} {a0 : Array Value} {G : va_G} {ca : Nat → ClassId} {d : Nat} {C : Nat × Nat} {S : zS} {M : zM} {Q E : Int → zM → Prop} {X : zM → Prop} {xs ys : List JR} {P rA rB : Nat} {A B : SS} {dB : SP → Option (List Nat)}
theorem m_row (Γ : rt_Γ l s0 a0 G ca) (hd : 400 ≤ d) (hok : zok C) (hH : uH S 86 108 ys A B dB) (hU : uM M 86 108 xs ys A B) (hrA : M 86 31 = (rA : Int)) (hrB : M 108 31 = (rB : Int)) (hA : rA < 6 + A.ns.length) (hB : rB < 6 + B.ns.length) {bs : List Nat} {o : tU} (ho : tT A.ns B.ns dB 32 rA rB bs o) (h15 : M 84 15 = 0) (h24 : M 84 24 = (P : Int)) (hrd : rdW M P bs) (hP : P + bs.length ≤ 4200)
    (kQ : o.1.length ≤ 4096 → o.2 = false → ∀ M1 : zM, uO 0 (P + bs.length) o.1 (zu M 84 25 4096) M1 → Q 0 M1) (kF : 4096 < o.1.length → ∀ M1 : zM, uFr 0 (zu M 84 25 4096) M1 → E (-31) M1) (kU : o.1.length ≤ 4096 → o.2 = true → ∀ M1 : zM, uFr 0 (zu M 84 25 4096) M1 → E (-20) M1) : zc_X11_tellRow l s0 G ca d C S 4096 M Q E := by
  obtain ⟨hS, hSo, hFA, hFB, hHA, hHB, hOA, hOB, hIA, hVA, hVB, hPA, hPB, hD⟩ := id hH
  obtain ⟨hs, ht, ht1⟩ := id hS
  refine z_X11_tellRow Γ (by omega) hok hs ?_
  unfold zt_X11_tellRow
  rw [h15, hrA, hrB]
  have fr : ∀ c j : Int, ¬ (c = 84 ∧ j = 25) → zu M 84 25 (0 + 4096) c j = M c j := fun c j n => zu_ne n
  have hU1 : uM (zu M 84 25 (0 + 4096)) 86 108 xs ys A B := ⟨hU.1.m (fun a j h1 h2 => fr a j (by omega)), hU.2.1.m (fun a j h1 h2 => fr a j (by omega)), hU.2.2.1.m (fun a j h1 h2 => fr a j (by omega)), hU.2.2.2.m (fun a j h1 h2 => fr a j (by omega))⟩
  refine n_tell Γ hok hH 32 (d - 1) rA rB P 0 bs o _ _ _ (by omega) hA hB ho hU1 (hrd.u (by decide)) hP ⟨(fr _ _ (by decide)).trans h15, Nat.zero_le _, (zu_s _ _ _ _)⟩ ((fr _ _ (by decide)).trans h24) ⟨fun h1 h2 M1 x => ?_, fun h1 M1 x => ?_, fun h1 h2 M1 x => ?_⟩
  · exact kQ (by omega) h2 M1 x
  · show E (-(M1 84 17)) M1
    rw [x.1]
    exact kF (by omega) M1 x.2
  · show E (-(M1 84 17)) M1
    rw [x.1]
    exact kU (by omega) h2 M1 x.2
/-- rows are passed over -/
theorem m_psL (Γ : rt_Γ l s0 a0 G ca) (hd : 120 ≤ d) (hok : zok C) (hS : mSh S 86) (hFA : kF A) (hOA : kOk A) (hPA : kPs A) (hR : rC M 86 xs A) (hrA : M 86 31 = (rA : Int)) (hA : rA < 6 + A.ns.length) {L : List (List Nat)} (hN : ∀ w ∈ L, yN A.ns 32 rA w) (hrd : rdW M 0 L.flatten) (hl : L.flatten.length ≤ 4200) (hl2 : L.length ≤ 4200) {i : Nat} (hi : i ≤ L.length) {w0 : rt_Wd} (hQ : Q 0 (zu M 84 24 ((L.take i).flatten.length : Nat))) : ∀ (c j : Nat), j + c = i → zg_X11_pass_2 l s0 G ca d C S w0 i j (zu M 84 24 ((L.take j).flatten.length : Nat)) Q X := by
  obtain ⟨hs, ht, ht1⟩ := id hS
  intro c
  induction c with
  | zero =>
    intro j hj
    have : j = i := by omega
    subst this
    refine zs_X11_pass_2 Γ (by omega) hok hs ?_
    unfold zt_X11_pass_2
    exact zIf_t (Int.le_refl _) hQ
  | succ c ih =>
    intro j hj
    obtain ⟨w, hw⟩ : ∃ w, L[j]? = some w := ⟨_, List.getElem?_eq_getElem (show j < L.length by omega)⟩
    refine zs_X11_pass_2 Γ (by omega) hok hs ?_
    unfold zt_X11_pass_2
    rw [w32_id (x := (i : Int)) (by omega) (by omega), w32_id (x := (j : Int)) (by omega) (by omega)]
    refine zIf_f (by omega) ?_
    obtain ⟨b1, b2⟩ := tBg_w (P := 0) hw hrd
    have eP : tBg 0 L j = (L.take j).flatten.length := Nat.zero_add _
    have eS := tBg_s (P := 0) hw
    have eP1 : tBg 0 L (j + 1) = (L.take (j + 1)).flatten.length := Nat.zero_add _
    rw [eP] at b1 b2 eS
    rw [eP1] at eS
    rw [zu_a (by decide), hrA]
    refine s_skip Γ hok hS hFA hOA hPA 32 (d - 1) rA (L.take j).flatten.length w _ _ X (by omega) hA (hN w (List.mem_of_getElem? hw)) (hR.u (by decide)) (zu_s _ _ _ _) (b1.u (by decide)) (by omega) ?_
    rw [zu_zu, ← eS, show (j : Int) + 1 = ((j + 1 : Nat) : Int) by omega]
    exact ih (j + 1) (by omega)
theorem m_pss (Γ : rt_Γ l s0 a0 G ca) (hd : 120 ≤ d) (hok : zok C) (hS : mSh S 86) (hFA : kF A) (hOA : kOk A) (hPA : kPs A) (hR : rC M 86 xs A) (hrA : M 86 31 = (rA : Int)) (hA : rA < 6 + A.ns.length) {L : List (List Nat)} (hN : ∀ w ∈ L, yN A.ns 32 rA w) (hrd : rdW M 0 L.flatten) (hl : L.flatten.length ≤ 4200) (hl2 : L.length ≤ 4200) {i : Nat} (hi : i ≤ L.length) (h24 : M 84 24 = 0) (hQ : Q 0 (zu M 84 24 ((L.take i).flatten.length : Nat))) : zm_X11_pass l s0 G ca d C S i M Q X := by
  refine z_X11_pass Γ (by omega) hok hS.1 ?_
  unfold zt_X11_pass
  have := m_psL (d := d) (C := C) (w0 := zw s0 ca C S M) (X := X) Γ hd hok hS hFA hOA hPA hR hrA hA hN hrd hl hl2 hi hQ i 0 (Nat.zero_add _)
  have e : zu M 84 24 ((L.take 0).flatten.length : Nat) = M := zu_id h24
  rw [e] at this
  exact this
end IC9
