/-! ===== the reference's named shapes ===== -/
theorem sCom_not {w : List Int32} : sCom w = none ↔ (¬ w = iw [97, 114, 114, 97, 121] ∧ ¬ w = iw [109, 97, 112] ∧ ¬ w = iw [102, 105, 120, 101, 100] ∧ ¬ w = iw [101, 110, 117, 109] ∧ ¬ w = iw [114, 101, 99, 111, 114, 100]) := by
  unfold sCom
  constructor
  · intro h
    refine ⟨fun e => ?_, fun e => ?_, fun e => ?_, fun e => ?_, fun e => ?_⟩ <;> (rw [e] at h; exact absurd h (by decide))
  · intro h
    rw [if_neg h.1, if_neg h.2.1, if_neg h.2.2.1, if_neg h.2.2.2.1, if_neg h.2.2.2.2]
theorem oI_ge {o : Option Nat} (h : ∀ n : Nat, o = some n → n < 2147483648) : 0 ≤ w32 (oI o) ↔ ¬ o = none := by
  cases o with
  | none => exact ⟨fun c => absurd (show 0 ≤ w32 (oI none) from c) (by decide), fun c => absurd rfl c⟩
  | some n =>
    rw [oI_w (h n rfl)]
    exact ⟨fun _ c => (nomatch c), fun _ => by omega⟩
section TFs
variable {l : Launch} {s0 : State} {a0 : Array Value} {G : va_G} {ca : Nat → ClassId} {d : Nat} {C : Nat × Nat} {S : zS} {M : zM} {Q : Int → zM → Prop} {X : zM → Prop} {xs : List JR} {v : Nat} {t : Int} {st : SS}
theorem sDef_lt {st : SS} {w : List Int32} {n : Nat} (h : sDef st.ns w = some n) : n < 6 + st.ns.length := sDefL_lt _ _ _ _ h
theorem rC.len (hC : rC M t xs st) : st.ns.length ≤ 128 := Nat.le_trans hC.2.2.2.2.1 hC.2.2.2.2.2.1
/-- a fixed's size -/
theorem r_fix (Γ : rt_Γ l s0 a0 G ca) (hd : 6 ≤ d) (hok : zok C) (ht : zTx S t) (hT : rTx M t xs) (hv : v < xs.length) (hk1 : (xx xs v).kd = 1) (hC : rC M t xs st) (hV : kV st) {i : Nat} {n : SN} (hi : st.ns[i]? = some n) (hkd : n.kd = 9) {w0 : rt_Wd} {q207 : Nat} (h207 : zstr s0 q207 [115, 105, 122, 101])
    (kE : ∀ e : Nat × Nat, sFix xs v (6 + i) st = .error e → rE t M X e) (kO : ∀ st1 : SS, sFix xs v (6 + i) st = .ok (6 + i, st1) → rO t xs M Q (6 + i) st1) :
    zm_X10_member l s0 G ca (d - 1) C S t (rP xs v : Nat) q207 M (fun r209 M209 => zIf (w32 r209 < 0) (zt_X10_named_225 l s0 G ca d C S w0 t (rP xs v : Nat) ((6 + i : Nat) : Int) r209 0 M209 Q X) (zt_X10_named_225 l s0 G ca d C S w0 t (rP xs v : Nat) ((6 + i : Nat) : Int) r209 1 M209 Q X)) X := by
  refine r_mem Γ (by omega) hok ht hT hv hk1 h207 ?_
  have hil := (List.getElem?_eq_some_iff.mp hi).1
  have hlen := hC.len
  obtain ⟨v1, v2, v3, -⟩ := r_nd hT hv
  unfold sFix at kE kO
  cases hm : xMem xs v (iw [115, 105, 122, 101]) with
  | none =>
    rw [hm] at kE
    refine ⟨fun _ => ?_, fun c => absurd (show w32 (-1) < 0 by decide) c⟩
    unfold zt_X10_named_225
    exact ⟨⟨by omega, by omega⟩, r_need Γ (by omega) hok ht (fun _ M1 f1 => kE _ rfl M1 (by rw [v2] at f1; exact f1)) (fun c => absurd (by decide) c)⟩
  | some b =>
    rw [hm] at kE kO
    dsimp only at kE kO
    obtain ⟨-, -, hb⟩ := xMem_mem hT.2.1 hv hm
    obtain ⟨n1, n2, n3, -, n5, -, -, n8, n9, -⟩ := r_nd hT hb
    refine ⟨fun c => absurd c (by rw [show oR xs (some b) = ((rP xs b : Nat) : Int) from rfl, w32_id (by omega) (by omega)]; omega), fun _ => ?_⟩
    show zt_X10_named_225 l s0 G ca d C S w0 t _ _ ((rP xs b : Nat) : Int) 1 M Q X
    unfold zt_X10_named_225
    refine ⟨⟨by omega, by omega⟩, r_need Γ (by omega) hok ht (fun c => absurd c (by decide)) (fun _ => ⟨⟨by omega, by omega⟩, ?_⟩)⟩
    have bad : ¬ ((xx xs b).kd = 4 ∧ 0 ≤ (xx xs b).num.toInt ∧ (xx xs b).num.toInt ≤ 64) → zt_X10_named_278 l s0 G ca d C S w0 t ((6 + i : Nat) : Int) (rP xs b : Nat) M Q X := fun h => by
      rw [if_neg h] at kE
      unfold zt_X10_named_278 zt_X10_named_279
      exact ⟨⟨by omega, by omega⟩, r_need Γ (by omega) hok ht (fun _ M1 f1 => kE _ rfl M1 (by rw [n2] at f1; exact f1)) (fun c => absurd (by decide) c)⟩
    rw [n1, w32_id (x := ((xx xs b).kd : Int) - 1) (by omega) (by omega)]
    refine ⟨fun c => ?_, fun c => bad (fun h => c (by omega))⟩
    have hk4 : (xx xs b).kd = 4 := by omega
    rw [n5 hk4, w64_toI]
    refine ⟨fun c => bad (fun h => by omega), fun c => ⟨fun c2 => bad (fun h => by omega), fun c2 => ?_⟩⟩
    rw [if_pos ⟨hk4, by omega, by omega⟩] at kO
    unfold zt_X10_named_279
    refine ⟨⟨by omega, by omega⟩, r_need Γ (by omega) hok ht (fun c => absurd c (by decide)) (fun _ => ⟨⟨by omega, by omega⟩, ?_⟩)⟩
    rw [n5 hk4]
    exact kO _ rfl _ (rC_det hC hV.1 hi (Or.inl ⟨hkd, rfl⟩)) (sfr.rf.zu (by omega))
/-- behind the name: the shape -/
theorem r_nmd (Γ : rt_Γ l s0 a0 G ca) {m : Nat} (hd : 8 * m + 23 ≤ d) (hm : m + 1 ≤ 16) (hok : zok C) (ht : zTx S t) (hI : rLk l s0 G ca C S xs t m) (hT : rTx M t xs) (hv : v < xs.length) (hk1 : (xx xs v).kd = 1) (hC : rC M t xs st) (hK : kOk st) (hV : kV st) (hlt : st.ns.length < st.lk) {n kd : Nat} (hn : n < xs.length) (hk3 : (xx xs n).kd = 3) (hkd : kd = 9 ∨ kd = 10 ∨ kd = 11) (hU : st.kc + ((xx xs v).sz - 1) ≤ 2100) {w0 : rt_Wd}
    (kE : ∀ e : Nat × Nat, (if kd = 9 then sFix xs v (sNum st) (sNew st kd (some ((xx xs n).ws, n)) 0) else if kd = 10 then sEnm xs v (sNum st) (sNew st kd (some ((xx xs n).ws, n)) 0) else sRec xs (sLook xs m) v (sNum st) (sNew st kd (some ((xx xs n).ws, n)) 0)) = .error e → rE t M X e)
    (kO : ∀ (s : Nat) (st1 : SS), (if kd = 9 then sFix xs v (sNum st) (sNew st kd (some ((xx xs n).ws, n)) 0) else if kd = 10 then sEnm xs v (sNum st) (sNew st kd (some ((xx xs n).ws, n)) 0) else sRec xs (sLook xs m) v (sNum st) (sNew st kd (some ((xx xs n).ws, n)) 0)) = .ok (s, st1) → rO t xs M Q s st1) :
    zt_X10_named_179 l s0 G ca d C S w0 t (rP xs v : Nat) ((16 - (m + 1) : Nat) : Int) (rP xs n : Nat) kd M Q X := by
  unfold zt_X10_named_179
  have hlen := hC.len
  refine r_shape Γ hok ht hC hlt 0 hV.2 (fun M1 r1 r2 => ?_)
  have hat : (sNew st kd none 0).ns[st.ns.length]? = some (kd, none, -1, 0, []) := sNew_at
  have hk9 := (r1.2.2.1 _ _ hat).1
  have hk9b : M1 (t + 9) ((sNum st : Nat) : Int) = (kd : Int) := hk9
  have hC2 := rC_nam r1 hV.new.1 hn hk3
  have hf2 : sfr t M (zu M1 (t + 10) ((sNum st : Nat) : Int) (rP xs n : Nat)) := r2.zu (by omega)
  have hT2 := hT.fr hf2
  have hat2 : (sNew st kd (some ((xx xs n).ws, n)) 0).ns[st.ns.length]? = some (kd, some ((xx xs n).ws, n), -1, 0, []) := sNew_at
  have hV2 : kV (sNew st kd (some ((xx xs n).ws, n)) 0) := hV.new
  have hK2 : kOk (sNew st kd (some ((xx xs n).ws, n)) 0) := hK.new (by omega)
  have hU2 : (sNew st kd (some ((xx xs n).ws, n)) 0).kc + ((xx xs v).sz - 1) ≤ 2100 := hU
  generalize zu M1 (t + 10) ((sNum st : Nat) : Int) (rP xs n : Nat) = M2 at hC2 hf2 hT2 ⊢
  rw [hk9b, w32_id (x := (kd : Int)) (by omega) (by omega)]
  refine ⟨⟨by unfold sNum; omega, by unfold sNum; omega⟩, fun c => ?_, fun c => ⟨fun c2 => ?_, fun c2 => ?_⟩⟩
  · have e9 : kd = 9 := by omega
    rw [if_pos e9] at kE kO
    intro q207 h207
    exact r_fix Γ (by omega) hok ht hT2 hv hk1 hC2 hV2 hat2 e9 h207 (fun e he => (kE e he).fr hf2) (fun st1 he => (kO _ st1 he).fr hf2)
  · have e10 : kd = 10 := by omega
    rw [if_neg (by omega), if_pos e10] at kE kO
    exact r_symbols Γ (by omega) hok ht hT2 hv hk1 hC2 hV2 hat2 e10 rfl hU2 (fun e he => (kE e he).fr hf2) (fun st1 he => (kO _ st1 he).fr hf2)
  · have e11 : kd = 11 := by omega
    rw [if_neg (by omega), if_neg (by omega)] at kE kO
    exact r_fields Γ (by omega) hm hok ht hI hT2 hv hk1 hC2 hK2 hV2 hat2 e11 rfl hU2 (fun e he => (kE e he).fr hf2) (fun st1 he => (kO _ st1 he).fr hf2)
theorem r_named (Γ : rt_Γ l s0 a0 G ca) {m : Nat} (hd : 8 * m + 23 ≤ d) (hm : m + 1 ≤ 16) (hok : zok C) (ht : zTx S t) (hI : rLk l s0 G ca C S xs t m) (hT : rTx M t xs) (hv : v < xs.length) (hk1 : (xx xs v).kd = 1) (hC : rC M t xs st) (hK : kOk st) (hV : kV st) (hlt : st.ns.length < st.lk) {z kd : Nat} (hz : z < xs.length) (hz3 : (xx xs z).kd = 3) (hkd : sCom (xx xs z).ws = some kd) (hkd2 : kd = 9 ∨ kd = 10 ∨ kd = 11) (hU : st.kc + ((xx xs v).sz - 1) ≤ 2100)
    (kE : ∀ e : Nat × Nat, sNmd xs (sLook xs m) v kd st = .error e → rE t M X e) (kO : ∀ (s : Nat) (st1 : SS), sNmd xs (sLook xs m) v kd st = .ok (s, st1) → rO t xs M Q s st1) :
    zm_X10_named l s0 G ca d C S t (rP xs v : Nat) (rP xs z : Nat) ((16 - (m + 1) : Nat) : Int) M Q X := by
  refine z_X10_named Γ (by omega) hok ht ?_
  unfold zt_X10_named
  intro q2 h2
  have hlen := hC.len
  obtain ⟨v1, v2, v3, -⟩ := r_nd hT hv
  refine r_mem Γ (by omega) hok ht hT hv hk1 h2 ?_
  unfold sNmd sDfn at kE kO
  have bad8 : rE t M X (8, (xx xs v).bg) → ∀ v4 : Int, zt_X10_named_30 l s0 G ca d C S (zw s0 ca C S M) t (rP xs v : Nat) (rP xs z : Nat) ((16 - (m + 1) : Nat) : Int) v4 M Q X := fun h v4 => by
    unfold zt_X10_named_30 zt_X10_named_31
    exact ⟨⟨by omega, by omega⟩, r_need Γ (by omega) hok ht (fun _ M1 f1 => h M1 (by rw [v2] at f1; exact f1)) (fun c => absurd (by decide) c)⟩
  cases hm9 : xMem xs v (iw [110, 97, 109, 101]) with
  | none =>
    rw [hm9] at kE
    exact ⟨fun _ => bad8 (kE _ rfl) _, fun c => absurd (show w32 (-1) < 0 by decide) c⟩
  | some n =>
    rw [hm9] at kE kO
    dsimp only at kE kO
    obtain ⟨-, -, hn⟩ := xMem_mem hT.2.1 hv hm9
    obtain ⟨b1, b2, b3, -, -, -, -, b8, b9, -⟩ := r_nd hT hn
    rw [show oR xs (some n) = ((rP xs n : Nat) : Int) from rfl]
    rw [b1, w32_id (x := ((rP xs n : Nat) : Int)) (by omega) (by omega), w32_id (x := ((xx xs n).kd : Int) - 1) (by omega) (by omega)]
    refine ⟨fun c => by omega, fun _ => ⟨⟨by omega, by omega⟩, fun c => ?_, fun c => ?_⟩⟩
    case refine_2 =>
      rw [if_neg (fun h => c (by omega))] at kE
      exact bad8 (kE _ rfl) _
    have hk3 : (xx xs n).kd = 3 := by omega
    rw [if_pos hk3] at kE kO
    unfold zt_X10_named_31
    refine ⟨⟨by omega, by omega⟩, r_need Γ (by omega) hok ht (fun c => absurd c (by decide)) (fun _ => ?_)⟩
    have no : ¬ (sNam (xx xs n).ws = true ∧ sSix (xx xs n).ws = none ∧ sCom (xx xs n).ws = none ∧ sDef st.ns (xx xs n).ws = none) → zt_X10_named_128 l s0 G ca d C S (zw s0 ca C S M) t (rP xs v : Nat) (rP xs z : Nat) ((16 - (m + 1) : Nat) : Int) (rP xs n : Nat) M Q X := fun h => by
      rw [if_neg h] at kE
      unfold zt_X10_named_128 zt_X10_named_129
      exact ⟨⟨by omega, by omega⟩, r_need Γ (by omega) hok ht (fun _ M1 f1 => kE _ rfl M1 (by rw [b2] at f1; exact f1)) (fun c => absurd (by decide) c)⟩
    refine r_nam Γ hok ht hT hn ⟨fun c1 => no (fun h => w32_bI.mp c1 ⟨hk3, h.1⟩), fun c1 => ?_⟩
    have hnam : sNam (xx xs n).ws = true := (Decidable.not_not.mp (fun h => c1 (w32_bI.mpr h))).2
    refine r_word Γ (by omega) hok ht hT hn hk3 ?_
    have b6' := oI_ge (o := sSix (xx xs n).ws) (fun k h => by have := sSix_lt h; omega)
    refine ⟨fun c2 => no (fun h => b6'.mp c2 h.2.1), fun c2 => ?_⟩
    have hsix : sSix (xx xs n).ws = none := Decidable.not_not.mp (fun h => c2 (b6'.mpr h))
    intro q63 h63
    refine r_said Γ (by omega) hok ht hT hn hk3 h63 ⟨fun d1 => ?_, fun d1 => no (fun h => d1 (w32_bI.mpr (sCom_not.mp h.2.2.1).1))⟩
    intro q74 h74
    refine r_said Γ (by omega) hok ht hT hn hk3 h74 ⟨fun d2 => ?_, fun d1 => no (fun h => d1 (w32_bI.mpr (sCom_not.mp h.2.2.1).2.1))⟩
    intro q85 h85
    refine r_said Γ (by omega) hok ht hT hn hk3 h85 ⟨fun d3 => ?_, fun d1 => no (fun h => d1 (w32_bI.mpr (sCom_not.mp h.2.2.1).2.2.1))⟩
    intro q96 h96
    refine r_said Γ (by omega) hok ht hT hn hk3 h96 ⟨fun d4 => ?_, fun d1 => no (fun h => d1 (w32_bI.mpr (sCom_not.mp h.2.2.1).2.2.2.1))⟩
    intro q107 h107
    refine r_said Γ (by omega) hok ht hT hn hk3 h107 ⟨fun d5 => ?_, fun d1 => no (fun h => d1 (w32_bI.mpr (sCom_not.mp h.2.2.1).2.2.2.2))⟩
    have hcom : sCom (xx xs n).ws = none := sCom_not.mpr ⟨w32_bI.mp d1, w32_bI.mp d2, w32_bI.mp d3, w32_bI.mp d4, w32_bI.mp d5⟩
    refine r_def Γ (by omega) hok ht hT hn hk3 hC ?_
    have bd' := oI_ge (o := sDef st.ns (xx xs n).ws) (fun k h => by have := sDef_lt h; omega)
    refine ⟨fun c3 => no (fun h => bd'.mp c3 h.2.2.2), fun c3 => ?_⟩
    have hdef : sDef st.ns (xx xs n).ws = none := Decidable.not_not.mp (fun h => c3 (bd'.mpr h))
    rw [if_pos ⟨hnam, hsix, hcom, hdef⟩] at kE kO
    dsimp only at kE kO
    unfold zt_X10_named_129
    refine ⟨⟨by omega, by omega⟩, r_need Γ (by omega) hok ht (fun c => absurd c (by decide)) (fun _ => ?_)⟩
    have fin : ∀ k9 : Nat, k9 = kd → zt_X10_named_179 l s0 G ca d C S (zw s0 ca C S M) t (rP xs v : Nat) ((16 - (m + 1) : Nat) : Int) (rP xs n : Nat) k9 M Q X := fun k9 e => by
      rw [e]
      exact r_nmd Γ hd hm hok ht hI hT hv hk1 hC hK hV hlt hn hk3 hkd2 hU kE kO
    have hfx : (xx xs z).ws = iw [102, 105, 120, 101, 100] ↔ kd = 9 := by
      unfold sCom at hkd
      constructor
      · intro h
        rw [h] at hkd
        exact (Option.some.inj hkd).symm
      · intro h
        rw [h] at hkd
        repeat' split at hkd
        all_goals first | assumption | exact absurd (Option.some.inj hkd) (by decide) | exact nomatch hkd
    have hen : (xx xs z).ws = iw [101, 110, 117, 109] ↔ kd = 10 := by
      unfold sCom at hkd
      constructor
      · intro h
        rw [h] at hkd
        exact (Option.some.inj hkd).symm
      · intro h
        rw [h] at hkd
        repeat' split at hkd
        all_goals first | assumption | exact absurd (Option.some.inj hkd) (by decide) | exact nomatch hkd
    intro q149 h149
    refine r_said Γ (by omega) hok ht hT hz hz3 h149 ⟨fun e1 => ?_, fun e1 => fin 9 (hfx.mp (Decidable.not_not.mp (fun h => e1 (w32_bI.mpr h)))).symm⟩
    intro q164 h164
    refine r_said Γ (by omega) hok ht hT hz hz3 h164 ⟨fun e2 => fin 11 ?_, fun e2 => fin 10 (hen.mp (Decidable.not_not.mp (fun h => e2 (w32_bI.mpr h)))).symm⟩
    have n9 : ¬ kd = 9 := fun h => w32_bI.mp e1 (hfx.mpr h)
    have n10 : ¬ kd = 10 := fun h => w32_bI.mp e2 (hen.mpr h)
    omega
end TFs
