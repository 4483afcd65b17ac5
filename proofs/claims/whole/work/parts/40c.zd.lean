/-! ===== what is where: the fixed cells, rows, schemas, the reference's texts ===== -/
def zL : List (Option zSh) := [some (0, 9, [(3, 1), (3, 3), (3, 5), (3, 6), (3, 24), (3, 55), (3, 56), (3, 69), (2, 0), (2, 0), (0, 0), (0, 0)]), some (0, 0, [(3, 2), (0, 0)]), some (1, 4096, []), some (0, 0, [(3, 4), (0, 0)]), some (1, 4096, []), some (5, 8, []), none, some (0, 0, [(3, 8), (0, 0)]), some (1, 2073, []), some (0, 0, [(3, 10), (0, 0)]), some (1, 2073, []), some (0, 0, [(3, 12), (0, 0)]), some (1, 2073, []), some (0, 0, [(3, 14), (0, 0)]), some (1, 2073, []), some (0, 0, [(3, 16), (0, 0)]), some (1, 2073, []), some (0, 0, [(3, 18), (0, 0)]), some (1, 2073, []), some (0, 0, [(3, 20), (0, 0)]), some (1, 2073, []), some (3, 2073, []), some (0, 0, [(3, 23), (0, 0)]), some (1, 4096, []), none, none, some (0, 0, [(3, 27), (0, 0)]), some (1, 128, []), some (0, 0, [(3, 29), (0, 0)]), some (1, 128, []), none, none, none, none, none, none, none, none, none, none, none, none, none, none, none, none, none, none, none, none, none, none, none, none, none, none, none, some (0, 0, [(3, 58), (0, 0)]), some (1, 4096, []), some (0, 0, [(3, 60), (0, 0)]), some (1, 2048, []), some (0, 0, [(3, 62), (0, 0)]), some (1, 1089, []), some (0, 0, [(3, 64), (0, 0)]), some (1, 134, []), some (0, 0, [(3, 66), (0, 0)]), some (1, 134, []), some (0, 0, [(3, 68), (0, 0)]), some (1, 134, []), none, some (0, 0, [(3, 71), (0, 0)]), some (1, 17956, []), some (0, 0, [(3, 73), (0, 0)]), some (1, 17956, []), some (0, 5, [(3, 75), (3, 77)]), some (0, 0, [(3, 76), (0, 0)]), some (1, 4096, []), some (0, 0, [(3, 78), (0, 0)]), some (1, 4096, []), some (0, 5, [(3, 80), (3, 82)]), some (0, 0, [(3, 81), (0, 0)]), some (1, 4096, []), some (0, 0, [(3, 83), (0, 0)]), some (1, 4096, []), some (0, 11, [(0, 0), (3, 85), (0, 0), (0, 0), (3, 86), (3, 108), (3, 130), (3, 131), (3, 132), (0, 0), (0, 0), (0, 0), (3, 133), (0, 0), (3, 134), (0, 0), (0, 0), (0, 0), (0, 0), (0, 0), (0, 0), (3, 135), (3, 136), (0, 0), (0, 0), (0, 0)]), some (2, 4096, []), some (0, 10, [(3, 87), (0, 0), (0, 0), (0, 0), (0, 0), (0, 0), (0, 0), (0, 0), (3, 88), (3, 89), (3, 90), (3, 91), (3, 92), (3, 93), (3, 94), (0, 0), (0, 0), (0, 0), (3, 95), (3, 96), (3, 97), (3, 98), (3, 99), (3, 100), (0, 0), (3, 101), (3, 102), (3, 103), (3, 104), (0, 0), (3, 105), (0, 0), (3, 106), (0, 0), (3, 107)]), some (2, 4096, []), some (1, 4200, []), some (1, 4200, []), some (3, 4200, []), some (1, 4200, []), some (1, 4200, []), some (1, 4200, []), some (2, 4200, []), some (1, 140, []), some (1, 140, []), some (1, 140, []), some (1, 140, []), some (1, 140, []), some (1, 140, []), some (1, 2200, []), some (1, 2200, []), some (1, 2200, []), some (1, 2200, []), some (1, 2200, []), some (2, 4200, []), some (4, 140, []), some (0, 10, [(3, 109), (0, 0), (0, 0), (0, 0), (0, 0), (0, 0), (0, 0), (0, 0), (3, 110), (3, 111), (3, 112), (3, 113), (3, 114), (3, 115), (3, 116), (0, 0), (0, 0), (0, 0), (3, 117), (3, 118), (3, 119), (3, 120), (3, 121), (3, 122), (0, 0), (3, 123), (3, 124), (3, 125), (3, 126), (0, 0), (3, 127), (0, 0), (3, 128), (0, 0), (3, 129)]), some (2, 4096, []), some (1, 4200, []), some (1, 4200, []), some (3, 4200, []), some (1, 4200, []), some (1, 4200, []), some (1, 4200, []), some (2, 4200, []), some (1, 140, []), some (1, 140, []), some (1, 140, []), some (1, 140, []), some (1, 140, []), some (1, 140, []), some (1, 2200, []), some (1, 2200, []), some (1, 2200, []), some (1, 2200, []), some (1, 2200, []), some (2, 4200, []), some (4, 140, []), some (2, 32768, []), some (1, 8, []), some (2, 4200, []), some (2, 4200, []), some (2, 4200, []), some (4, 19600, []), some (1, 19600, []), some (3, 1, [])]
def zSok (S : zS) : Prop := ∀ (i : Nat) (q : zSh), zL[i]? = some (some q) → S (i : Int) = some q
def zCe (S : zS) (c a : Int) (n : Nat) : Prop := 0 ≤ c ∧ 0 ≤ a ∧ n < 2147483648 ∧ S c = some (0, 0, [(3, a), (0, 0)]) ∧ S a = some (1, n, [])
def zRw (S : zS) (r : Int) : Prop := 0 ≤ r ∧ S r = some (0, 5, [(3, r + 1), (3, r + 3)]) ∧ zCe S (r + 1) (r + 2) 4096 ∧ zCe S (r + 3) (r + 4) 4096
def zSc (S : zS) (p : Int) : Prop := 0 ≤ p ∧ S p = some (0, 6, [(3, p + 1), (3, p + 3), (3, p + 5), (3, p + 7), (3, p + 9), (3, p + 11), (3, p + 13), (3, p + 15), (3, p + 17), (3, p + 19), (3, p + 21), (3, p + 23), (0, 0)]) ∧ zCe S (p + 1) (p + 2) 134 ∧ zCe S (p + 3) (p + 4) 134 ∧ zCe S (p + 5) (p + 6) 134 ∧ zCe S (p + 7) (p + 8) 134 ∧ zCe S (p + 9) (p + 10) 134 ∧ zCe S (p + 11) (p + 12) 134 ∧ zCe S (p + 13) (p + 14) 2048 ∧ zCe S (p + 15) (p + 16) 2048 ∧ zCe S (p + 17) (p + 18) 2048 ∧ zCe S (p + 19) (p + 20) 2048 ∧ zCe S (p + 21) (p + 22) 4096 ∧ zCe S (p + 23) (p + 24) 8192
def zTx (S : zS) (t : Int) : Prop := 0 ≤ t ∧ S t = some (0, 10, [(3, t + 1), (0, 0), (0, 0), (0, 0), (0, 0), (0, 0), (0, 0), (0, 0), (3, t + 2), (3, t + 3), (3, t + 4), (3, t + 5), (3, t + 6), (3, t + 7), (3, t + 8), (0, 0), (0, 0), (0, 0), (3, t + 9), (3, t + 10), (3, t + 11), (3, t + 12), (3, t + 13), (3, t + 14), (0, 0), (3, t + 15), (3, t + 16), (3, t + 17), (3, t + 18), (0, 0), (3, t + 19), (0, 0), (3, t + 20), (0, 0), (3, t + 21)]) ∧ S (t + 1) = some (2, 4096, []) ∧ S (t + 2) = some (1, 4200, []) ∧ S (t + 3) = some (1, 4200, []) ∧ S (t + 4) = some (3, 4200, []) ∧ S (t + 5) = some (1, 4200, []) ∧ S (t + 6) = some (1, 4200, []) ∧ S (t + 7) = some (1, 4200, []) ∧ S (t + 8) = some (2, 4200, []) ∧ S (t + 9) = some (1, 140, []) ∧ S (t + 10) = some (1, 140, []) ∧ S (t + 11) = some (1, 140, []) ∧ S (t + 12) = some (1, 140, []) ∧ S (t + 13) = some (1, 140, []) ∧ S (t + 14) = some (1, 140, []) ∧ S (t + 15) = some (1, 2200, []) ∧ S (t + 16) = some (1, 2200, []) ∧ S (t + 17) = some (1, 2200, []) ∧ S (t + 18) = some (1, 2200, []) ∧ S (t + 19) = some (1, 2200, []) ∧ S (t + 20) = some (2, 4200, []) ∧ S (t + 21) = some (4, 140, [])
def zstr (s0 : State) (q : Nat) (bs : List Int) : Prop := rt_str s0 q (bs.map Int32.ofInt) ∧ (∀ b ∈ bs, 0 ≤ b ∧ b < 128) ∧ bs.length < 1000
theorem zRw_of {S : zS} (hs : zSok S) : zRw S 74 ∧ zRw S 79 := ⟨⟨by decide, hs 74 _ rfl, ⟨by decide, by decide, by decide, hs 75 _ rfl, hs 76 _ rfl⟩, ⟨by decide, by decide, by decide, hs 77 _ rfl, hs 78 _ rfl⟩⟩, ⟨by decide, hs 79 _ rfl, ⟨by decide, by decide, by decide, hs 80 _ rfl, hs 81 _ rfl⟩, ⟨by decide, by decide, by decide, hs 82 _ rfl, hs 83 _ rfl⟩⟩⟩
theorem zTx_of {S : zS} (hs : zSok S) : zTx S 86 ∧ zTx S 108 := ⟨⟨by decide, hs 86 _ rfl, hs 87 _ rfl, hs 88 _ rfl, hs 89 _ rfl, hs 90 _ rfl, hs 91 _ rfl, hs 92 _ rfl, hs 93 _ rfl, hs 94 _ rfl, hs 95 _ rfl, hs 96 _ rfl, hs 97 _ rfl, hs 98 _ rfl, hs 99 _ rfl, hs 100 _ rfl, hs 101 _ rfl, hs 102 _ rfl, hs 103 _ rfl, hs 104 _ rfl, hs 105 _ rfl, hs 106 _ rfl, hs 107 _ rfl⟩, ⟨by decide, hs 108 _ rfl, hs 109 _ rfl, hs 110 _ rfl, hs 111 _ rfl, hs 112 _ rfl, hs 113 _ rfl, hs 114 _ rfl, hs 115 _ rfl, hs 116 _ rfl, hs 117 _ rfl, hs 118 _ rfl, hs 119 _ rfl, hs 120 _ rfl, hs 121 _ rfl, hs 122 _ rfl, hs 123 _ rfl, hs 124 _ rfl, hs 125 _ rfl, hs 126 _ rfl, hs 127 _ rfl, hs 128 _ rfl, hs 129 _ rfl⟩⟩
theorem zv_cats {a : Nat} : (Value.ref a).category = 1 := rfl
def zIf (c A B : Prop) : Prop := (c → A) ∧ (¬ c → B)
theorem zIf_t {c A B : Prop} (hc : c) (h : A) : zIf c A B := ⟨fun _ => h, fun n => absurd hc n⟩
theorem zIf_f {c A B : Prop} (hc : ¬ c) (h : B) : zIf c A B := ⟨fun n => absurd n hc, fun _ => h⟩
theorem zIf_p {c A B : Prop} (hc : c) : zIf c A B ↔ A := ⟨fun h => h.1 hc, zIf_t hc⟩
theorem zIf_n {c A B : Prop} (hc : ¬ c) : zIf c A B ↔ B := ⟨fun h => h.2 hc, zIf_f hc⟩
theorem z_chr : ∀ k : Fin 128, Int32.ofInt ((k : Nat) : Int) &&& 255 = Int32.ofInt ((k : Nat) : Int) := by decide +kernel
section ZT
variable {l : Launch} {s0 : State} {a0 : Array Value} {G : va_G} {ca : Nat → ClassId} {own nm : String} {cc : ByteArray} {nL : Nat} {ret : Option FieldType} {tab : List ExceptionTableEntry} {d : Nat} {w0 w : rt_Wd} {Qr : rt_Res → rt_Wd → Prop} {pc : Nat} {lv : List (Nat × Value)} {st : List Value} {C : Nat × Nat} {S : zS} {M : zM}
theorem z_tin {x k : Int} {dflt lo hi : Int} {offs : Array Int} {len : Nat} {off : Int} {tgt : Nat} (hk : w32 x = k) (hd : decode cc pc = .ok (.tableswitch dflt lo hi offs, len)) (g : lo ≤ k ∧ k ≤ hi) (ho : offs[(k - lo).toNat]? = some off) (ht : (pc : Int) + off = (tgt : Int)) (kk : rt_Go l s0 G own nm cc nL ret tab d w0 Qr tgt lv st w) : rt_Go l s0 G own nm cc nL ret tab d w0 Qr pc lv (zv s0 0 x :: st) w := by
  have e : (Int32.ofInt x).toInt = k := (z_toI x).trans hk
  exact rt_tableIn hd (by rw [e]; omega) (by rw [e]; omega) (by rw [e]; exact ho) ht kk
theorem z_tout {x : Int} {dflt lo hi : Int} {offs : Array Int} {len : Nat} {tgt : Nat} (hd : decode cc pc = .ok (.tableswitch dflt lo hi offs, len)) (h : w32 x < lo ∨ hi < w32 x) (ht : (pc : Int) + dflt = (tgt : Int)) (kk : rt_Go l s0 G own nm cc nL ret tab d w0 Qr tgt lv st w) : rt_Go l s0 G own nm cc nL ret tab d w0 Qr pc lv (zv s0 0 x :: st) w :=
  rt_tableOut hd (by rw [z_toI]; exact h) ht kk
theorem z_slen (Γ : rt_Γ l s0 a0 G ca) {q : Nat} {bs : List Int} (hq : zstr s0 q bs) {index : Nat} (C9 : rt_Cv own index RJ0 yJ0_length_8abf5) (hd3 : 3 ≤ d - 1) (hok : zok C) (hW : (st.map fun v => v.category).sum ≤ 12) (hd : decode cc pc = .ok (.invokevirtual index, 3)) (k : rt_Go l s0 G own nm cc nL ret tab d w0 Qr (pc + 3) lv (zv s0 0 (bs.length : Int) :: st) (zw s0 ca C S M)) : rt_Go l s0 G own nm cc nL ret tab d w0 Qr pc lv (.ref q :: st) (zw s0 ca C S M) := by
  obtain ⟨v, h2, h3, h4, h5⟩ := id hq.1
  have hl : (bs.map Int32.ofInt).length < 2 ^ 31 := by rw [List.length_map]; have := hq.2.2; omega
  have hok2 : rt_ok (zw s0 ca C S M) := ⟨by have := hok.1; show C.1 ≤ _; omega, by have := hok.2; show C.2 ≤ _; omega⟩
  refine rt_callO Γ kk_J0_length_8abf5 C9 h2 (c_J0_length_8abf5 Γ (d := d - 1) (by omega) hok2 hq.1 hl) (by omega) (by decide) (As := []) (show (parseMethodDescriptor yJ0_length_8abf5.desc).map (fun q => q.parameters.length) = some 0 by decide +kernel) hok2 hW hd rfl rfl (rt_kr (st2 := .int (nI (bs.map Int32.ofInt).length) :: st) rfl ?_) rt_kx
  rw [List.length_map]
  have e : Value.int (nI bs.length) = zv s0 0 (bs.length : Int) := congrArg Value.int Int32.ofInt_eq_ofNat.symm
  rw [e]
  exact k
theorem z_scat (Γ : rt_Γ l s0 a0 G ca) {q : Nat} {bs : List Int} {i : Int} (hq : zstr s0 q bs) {index : Nat} (C9 : rt_Cv own index RJ0 yJ0_charAt_5068e) (hd3 : 3 ≤ d - 1) (hok : zok C) (hW : (st.map fun v => v.category).sum ≤ 12) (hi : 0 ≤ i ∧ i < (bs.length : Int)) (hd : decode cc pc = .ok (.invokevirtual index, 3)) (k : rt_Go l s0 G own nm cc nL ret tab d w0 Qr (pc + 3) lv (zv s0 0 (bs.getD i.toNat 0) :: st) (zw s0 ca C S M)) : rt_Go l s0 G own nm cc nL ret tab d w0 Qr pc lv (zv s0 0 i :: .ref q :: st) (zw s0 ca C S M) := by
  obtain ⟨v, h2, h3, h4, h5⟩ := id hq.1
  have hll := hq.2.2
  have hl : (bs.map Int32.ofInt).length < 2 ^ 31 := by rw [List.length_map]; omega
  have hok2 : rt_ok (zw s0 ca C S M) := ⟨by have := hok.1; show C.1 ≤ _; omega, by have := hok.2; show C.2 ≤ _; omega⟩
  have hin := z_in (i := i) (n := (bs.map Int32.ofInt).length) (by rw [List.length_map]; exact hi) (by omega)
  have g1 : ¬ Int32.ofInt i < 0 := fun c => by
    have c9 := (z_lt i 0).mp c
    rw [w32_id (by omega) (by omega)] at c9
    have : w32 0 = 0 := by decide
    omega
  have g2 : Int32.ofInt i < Int32.ofNat (bs.map Int32.ofInt).length := by
    rw [← Int32.ofInt_eq_ofNat, z_lt, List.length_map, w32_id (by omega) (by omega), w32_id (by omega) (by omega)]
    exact hi.2
  refine rt_callO Γ kk_J0_charAt_5068e C9 h2 (c_J0_charAt_5068e Γ (d := d - 1) hd3 hok2 hq.1 g1 g2 hin.1) (by omega) (by decide) (As := [zv s0 0 i]) (show (parseMethodDescriptor yJ0_charAt_5068e.desc).map (fun q => q.parameters.length) = some 1 by decide +kernel) hok2 hW hd rfl rfl (rt_kr (st2 := .int ((bs.map Int32.ofInt).getD (Int32.ofInt i).toNatClampNeg 0 &&& 255) :: st) rfl ?_) rt_kx
  have e : Value.int ((bs.map Int32.ofInt).getD (Int32.ofInt i).toNatClampNeg 0 &&& 255) = zv s0 0 (bs.getD i.toNat 0) := by
    refine congrArg Value.int ?_
    rw [hin.2]
    have hlt : i.toNat < bs.length := by omega
    have e1 : (bs.map Int32.ofInt).getD i.toNat 0 = Int32.ofInt (bs.getD i.toNat 0) := by
      simp [List.getD, List.getElem?_map, List.getElem?_eq_getElem hlt]
    have e2 : bs.getD i.toNat 0 = bs[i.toNat] := by simp [List.getD, List.getElem?_eq_getElem hlt]
    have hb := hq.2.1 _ (List.getElem_mem hlt)
    rw [e1, e2]
    have := z_chr ⟨(bs[i.toNat]).toNat, by omega⟩
    simp only [Int.toNat_of_nonneg hb.1] at this
    exact this
  rw [e]
  exact k
theorem zv_w (x : Int) : zv s0 0 (w32 x) = zv s0 0 x := congrArg Value.int ((z_eq _ _).mpr (w32_id (w32_b x).1 (w32_b x).2))
theorem z_ialdw (Γ : rt_Γ l s0 a0 G ca) {n : Nat} {a i : Int} {tys : List (Nat × Int)} (hd : decode cc pc = .ok (.iaload, 1)) (h0 : 0 ≤ a) (hS : S a = some (1, n, tys)) (hn : n < 2147483648) (hi : 0 ≤ w32 i ∧ w32 i < (n : Int)) {v9 : Int} (hv : M a (w32 i) = v9) (kk : rt_Go l s0 G own nm cc nL ret tab d w0 Qr (pc + 1) lv (zv s0 0 v9 :: st) (zw s0 ca C S M)) : rt_Go l s0 G own nm cc nL ret tab d w0 Qr pc lv (zv s0 0 i :: zv s0 2 a :: st) (zw s0 ca C S M) := by
  have e := zv_w (s0 := s0) i
  rw [← e]
  exact z_iald Γ hd h0 hS hn hi hv kk
theorem z_iastw (Γ : rt_Γ l s0 a0 G ca) {n : Nat} {a i x : Int} {tys : List (Nat × Int)} (hd : decode cc pc = .ok (.iastore, 1)) (h0 : 0 ≤ a) (hS : S a = some (1, n, tys)) (hn : n < 2147483648) (hi : 0 ≤ w32 i ∧ w32 i < (n : Int)) (kk : rt_Go l s0 G own nm cc nL ret tab d w0 Qr (pc + 1) lv st (zw s0 ca C S (zu M a (w32 i) x))) : rt_Go l s0 G own nm cc nL ret tab d w0 Qr pc lv (zv s0 0 x :: zv s0 0 i :: zv s0 2 a :: st) (zw s0 ca C S M) := by
  have e := zv_w (s0 := s0) i
  rw [← e]
  exact z_iast Γ hd h0 hS hn hi kk
theorem z_laldw (Γ : rt_Γ l s0 a0 G ca) {n : Nat} {a i : Int} {tys : List (Nat × Int)} (hd : decode cc pc = .ok (.laload, 1)) (h0 : 0 ≤ a) (hS : S a = some (3, n, tys)) (hn : n < 2147483648) (hi : 0 ≤ w32 i ∧ w32 i < (n : Int)) {v9 : Int} (hv : M a (w32 i) = v9) (kk : rt_Go l s0 G own nm cc nL ret tab d w0 Qr (pc + 1) lv (zv s0 1 v9 :: st) (zw s0 ca C S M)) : rt_Go l s0 G own nm cc nL ret tab d w0 Qr pc lv (zv s0 0 i :: zv s0 2 a :: st) (zw s0 ca C S M) := by
  have e := zv_w (s0 := s0) i
  rw [← e]
  exact z_lald Γ hd h0 hS hn hi hv kk
end ZT
