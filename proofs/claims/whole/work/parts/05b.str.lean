/-! ===== the JDK's texts: constants, length(), charAt ===== -/
abbrev rt_B (s0 : State) : Nat → Prop := fun z => s0.heap.size ≤ z
abbrev rt_lf : List Cond := flatC (Jvm.Cond.and given_1 narrow_1)
/-- a text of the constant pool: at a, of the bytes bs (Latin-1) -/
def rt_str (s0 : State) (a : Nat) (bs : List Int32) : Prop := ∃ v : Nat, va_O "java/lang/String" a (rt_B s0) s0 s0.heap ∧ va_OF "java/lang/String" "coder" "B" (.int 0) a (rt_B s0) s0 s0.heap ∧ va_OF "java/lang/String" "value" "[B" (.ref v) a (rt_B s0) s0 s0.heap ∧ va_T .byte v bs.length (fun j => .int (bs.getD j 0)) (rt_B s0) s0 s0.heap
section RTj
variable {l : Launch} {s0 : State} {a0 : Array Value} {G : va_G} {ca : Nat → ClassId} {own nm : String} {cc : ByteArray} {nL : Nat} {ret : Option FieldType} {tab : List ExceptionTableEntry} {d : Nat} {w0 w : rt_Wd} {Q : rt_Res → rt_Wd → Prop} {pc : Nat} {lv lv' : List (Nat × Value)} {st : List Value}
theorem rt_leaf (Γ : rt_Γ l s0 a0 G ca) {c : Cond} (h : c ∈ rt_lf) : c.before a0 s0 = true := flat_of_before _ Γ.2.2.2.2 c h
theorem rt_mkstr (Γ : rt_Γ l s0 a0 G ca) {o9 text : String} {k : Nat} {bs : List Int32} (h0 : Cond.stringRef o9 k text ∈ lw_tbl) (hex : Cond.exactly (.string o9 k) "java/lang/String" ∈ rt_lf) (hco : Cond.eq (.field (.string o9 k) "java/lang/String" "coder" "B") (.int 0) ∈ rt_lf) (har : Cond.arrayOf (.field (.string o9 k) "java/lang/String" "value" "[B") .byte ∈ rt_lf)
    (hle : Cond.eq (.length (.field (.string o9 k) "java/lang/String" "value" "[B")) (.int (Int32.ofNat bs.length)) ∈ rt_lf) (hel : ∀ j : Nat, j < bs.length → Cond.eq (.elem (.field (.string o9 k) "java/lang/String" "value" "[B") (.int (Int32.ofNat j))) (.int (bs.getD j 0)) ∈ rt_lf) (hb : bs.length < 2 ^ 31) : ∃ a, vk_R o9 k text a s0 ∧ rt_str s0 a bs := by
  have hA : ∀ a : Nat, a < s0.heap.size → ¬ rt_B s0 a := fun a h => Nat.not_le.mpr h
  obtain ⟨a, c, cA, kA, q1, q2, q3, q4, q5, q6, -⟩ := Cond.exactly_spec (args := a0) (first := s0) (o := none) (s := s0) (idx := []) (t := .string o9 k) (cls := "java/lang/String") (rt_leaf Γ hex)
  obtain ⟨t, ht, hT⟩ := va_Tof (f := fun j => .int (bs.getD j 0)) (A := rt_B s0) hb (rt_leaf Γ har) (va_eqt (rt_leaf Γ hle)) (fun j hj => va_eqt (rt_leaf Γ (hel j hj))) hA
  exact ⟨a, vk_R.of (Γ.2.1 _ h0) q1, t, ⟨cA, q3, q5, by rw [q6]; exact q2, hA a (Array.getElem?_eq_some_iff.mp q3).1⟩, vk_OFof q1 (va_eqt (rt_leaf Γ hco)) hA, vk_OFof q1 ht hA, hT⟩
end RTj

theorem ks_RX8_100 {l : Launch} {s0 : State} {a0 : Array Value} {G : va_G} {ca : Nat → ClassId} (Γ : rt_Γ l s0 a0 G ca) : ∃ a, vk_R RX8 100 "true" a s0 ∧ rt_str s0 a [116, 114, 117, 101] := by
  refine rt_mkstr Γ (tc_3 _ (List.mem_of_getElem? (i := 84) (by decide +kernel))) (List.mem_of_getElem? (i := 53) (by decide +kernel)) (List.mem_of_getElem? (i := 54) (by decide +kernel)) (List.mem_of_getElem? (i := 55) (by decide +kernel)) (List.mem_of_getElem? (i := 56) (by decide +kernel)) (fun j hj => ?_) (by decide)
  match j, hj with
    | 0, _ => exact (List.mem_of_getElem? (i := 57) (by decide +kernel))
    | 1, _ => exact (List.mem_of_getElem? (i := 58) (by decide +kernel))
    | 2, _ => exact (List.mem_of_getElem? (i := 59) (by decide +kernel))
    | 3, _ => exact (List.mem_of_getElem? (i := 60) (by decide +kernel))
    | n + 4, h => exact absurd h (by show ¬ n + 4 < 4; omega)
theorem ks_RX8_106 {l : Launch} {s0 : State} {a0 : Array Value} {G : va_G} {ca : Nat → ClassId} (Γ : rt_Γ l s0 a0 G ca) : ∃ a, vk_R RX8 106 "false" a s0 ∧ rt_str s0 a [102, 97, 108, 115, 101] := by
  refine rt_mkstr Γ (tc_3 _ (List.mem_of_getElem? (i := 137) (by decide +kernel))) (List.mem_of_getElem? (i := 61) (by decide +kernel)) (List.mem_of_getElem? (i := 62) (by decide +kernel)) (List.mem_of_getElem? (i := 63) (by decide +kernel)) (List.mem_of_getElem? (i := 64) (by decide +kernel)) (fun j hj => ?_) (by decide)
  match j, hj with
    | 0, _ => exact (List.mem_of_getElem? (i := 65) (by decide +kernel))
    | 1, _ => exact (List.mem_of_getElem? (i := 66) (by decide +kernel))
    | 2, _ => exact (List.mem_of_getElem? (i := 67) (by decide +kernel))
    | 3, _ => exact (List.mem_of_getElem? (i := 68) (by decide +kernel))
    | 4, _ => exact (List.mem_of_getElem? (i := 69) (by decide +kernel))
    | n + 5, h => exact absurd h (by show ¬ n + 5 < 5; omega)
theorem ks_RX8_108 {l : Launch} {s0 : State} {a0 : Array Value} {G : va_G} {ca : Nat → ClassId} (Γ : rt_Γ l s0 a0 G ca) : ∃ a, vk_R RX8 108 "null" a s0 ∧ rt_str s0 a [110, 117, 108, 108] := by
  refine rt_mkstr Γ (tc_3 _ (List.mem_of_getElem? (i := 138) (by decide +kernel))) (List.mem_of_getElem? (i := 70) (by decide +kernel)) (List.mem_of_getElem? (i := 71) (by decide +kernel)) (List.mem_of_getElem? (i := 72) (by decide +kernel)) (List.mem_of_getElem? (i := 73) (by decide +kernel)) (fun j hj => ?_) (by decide)
  match j, hj with
    | 0, _ => exact (List.mem_of_getElem? (i := 74) (by decide +kernel))
    | 1, _ => exact (List.mem_of_getElem? (i := 75) (by decide +kernel))
    | 2, _ => exact (List.mem_of_getElem? (i := 76) (by decide +kernel))
    | 3, _ => exact (List.mem_of_getElem? (i := 77) (by decide +kernel))
    | n + 4, h => exact absurd h (by show ¬ n + 4 < 4; omega)
theorem ks_RX1_103 {l : Launch} {s0 : State} {a0 : Array Value} {G : va_G} {ca : Nat → ClassId} (Γ : rt_Γ l s0 a0 G ca) : ∃ a, vk_R RX1 103 "null" a s0 ∧ rt_str s0 a [110, 117, 108, 108] := by
  refine rt_mkstr Γ (tc_3 _ (List.mem_of_getElem? (i := 185) (by decide +kernel))) (List.mem_of_getElem? (i := 78) (by decide +kernel)) (List.mem_of_getElem? (i := 79) (by decide +kernel)) (List.mem_of_getElem? (i := 80) (by decide +kernel)) (List.mem_of_getElem? (i := 81) (by decide +kernel)) (fun j hj => ?_) (by decide)
  match j, hj with
    | 0, _ => exact (List.mem_of_getElem? (i := 82) (by decide +kernel))
    | 1, _ => exact (List.mem_of_getElem? (i := 83) (by decide +kernel))
    | 2, _ => exact (List.mem_of_getElem? (i := 84) (by decide +kernel))
    | 3, _ => exact (List.mem_of_getElem? (i := 85) (by decide +kernel))
    | n + 4, h => exact absurd h (by show ¬ n + 4 < 4; omega)
theorem ks_RX1_109 {l : Launch} {s0 : State} {a0 : Array Value} {G : va_G} {ca : Nat → ClassId} (Γ : rt_Γ l s0 a0 G ca) : ∃ a, vk_R RX1 109 "boolean" a s0 ∧ rt_str s0 a [98, 111, 111, 108, 101, 97, 110] := by
  refine rt_mkstr Γ (tc_3 _ (List.mem_of_getElem? (i := 196) (by decide +kernel))) (List.mem_of_getElem? (i := 87) (by decide +kernel)) (List.mem_of_getElem? (i := 88) (by decide +kernel)) (List.mem_of_getElem? (i := 89) (by decide +kernel)) (List.mem_of_getElem? (i := 90) (by decide +kernel)) (fun j hj => ?_) (by decide)
  match j, hj with
    | 0, _ => exact (List.mem_of_getElem? (i := 91) (by decide +kernel))
    | 1, _ => exact (List.mem_of_getElem? (i := 92) (by decide +kernel))
    | 2, _ => exact (List.mem_of_getElem? (i := 93) (by decide +kernel))
    | 3, _ => exact (List.mem_of_getElem? (i := 94) (by decide +kernel))
    | 4, _ => exact (List.mem_of_getElem? (i := 95) (by decide +kernel))
    | 5, _ => exact (List.mem_of_getElem? (i := 96) (by decide +kernel))
    | 6, _ => exact (List.mem_of_getElem? (i := 97) (by decide +kernel))
    | n + 7, h => exact absurd h (by show ¬ n + 7 < 7; omega)
theorem ks_RX1_111 {l : Launch} {s0 : State} {a0 : Array Value} {G : va_G} {ca : Nat → ClassId} (Γ : rt_Γ l s0 a0 G ca) : ∃ a, vk_R RX1 111 "int" a s0 ∧ rt_str s0 a [105, 110, 116] := by
  refine rt_mkstr Γ (tc_3 _ (List.mem_of_getElem? (i := 197) (by decide +kernel))) (List.mem_of_getElem? (i := 98) (by decide +kernel)) (List.mem_of_getElem? (i := 99) (by decide +kernel)) (List.mem_of_getElem? (i := 100) (by decide +kernel)) (List.mem_of_getElem? (i := 101) (by decide +kernel)) (fun j hj => ?_) (by decide)
  match j, hj with
    | 0, _ => exact (List.mem_of_getElem? (i := 102) (by decide +kernel))
    | 1, _ => exact (List.mem_of_getElem? (i := 103) (by decide +kernel))
    | 2, _ => exact (List.mem_of_getElem? (i := 104) (by decide +kernel))
    | n + 3, h => exact absurd h (by show ¬ n + 3 < 3; omega)
theorem ks_RX1_113 {l : Launch} {s0 : State} {a0 : Array Value} {G : va_G} {ca : Nat → ClassId} (Γ : rt_Γ l s0 a0 G ca) : ∃ a, vk_R RX1 113 "long" a s0 ∧ rt_str s0 a [108, 111, 110, 103] := by
  refine rt_mkstr Γ (tc_3 _ (List.mem_of_getElem? (i := 198) (by decide +kernel))) (List.mem_of_getElem? (i := 105) (by decide +kernel)) (List.mem_of_getElem? (i := 106) (by decide +kernel)) (List.mem_of_getElem? (i := 107) (by decide +kernel)) (List.mem_of_getElem? (i := 108) (by decide +kernel)) (fun j hj => ?_) (by decide)
  match j, hj with
    | 0, _ => exact (List.mem_of_getElem? (i := 109) (by decide +kernel))
    | 1, _ => exact (List.mem_of_getElem? (i := 110) (by decide +kernel))
    | 2, _ => exact (List.mem_of_getElem? (i := 111) (by decide +kernel))
    | 3, _ => exact (List.mem_of_getElem? (i := 112) (by decide +kernel))
    | n + 4, h => exact absurd h (by show ¬ n + 4 < 4; omega)
theorem ks_RX1_115 {l : Launch} {s0 : State} {a0 : Array Value} {G : va_G} {ca : Nat → ClassId} (Γ : rt_Γ l s0 a0 G ca) : ∃ a, vk_R RX1 115 "bytes" a s0 ∧ rt_str s0 a [98, 121, 116, 101, 115] := by
  refine rt_mkstr Γ (tc_3 _ (List.mem_of_getElem? (i := 199) (by decide +kernel))) (List.mem_of_getElem? (i := 113) (by decide +kernel)) (List.mem_of_getElem? (i := 114) (by decide +kernel)) (List.mem_of_getElem? (i := 115) (by decide +kernel)) (List.mem_of_getElem? (i := 116) (by decide +kernel)) (fun j hj => ?_) (by decide)
  match j, hj with
    | 0, _ => exact (List.mem_of_getElem? (i := 117) (by decide +kernel))
    | 1, _ => exact (List.mem_of_getElem? (i := 118) (by decide +kernel))
    | 2, _ => exact (List.mem_of_getElem? (i := 119) (by decide +kernel))
    | 3, _ => exact (List.mem_of_getElem? (i := 120) (by decide +kernel))
    | 4, _ => exact (List.mem_of_getElem? (i := 121) (by decide +kernel))
    | n + 5, h => exact absurd h (by show ¬ n + 5 < 5; omega)
theorem ks_RX1_117 {l : Launch} {s0 : State} {a0 : Array Value} {G : va_G} {ca : Nat → ClassId} (Γ : rt_Γ l s0 a0 G ca) : ∃ a, vk_R RX1 117 "string" a s0 ∧ rt_str s0 a [115, 116, 114, 105, 110, 103] := by
  refine rt_mkstr Γ (tc_3 _ (List.mem_of_getElem? (i := 200) (by decide +kernel))) (List.mem_of_getElem? (i := 122) (by decide +kernel)) (List.mem_of_getElem? (i := 123) (by decide +kernel)) (List.mem_of_getElem? (i := 124) (by decide +kernel)) (List.mem_of_getElem? (i := 125) (by decide +kernel)) (fun j hj => ?_) (by decide)
  match j, hj with
    | 0, _ => exact (List.mem_of_getElem? (i := 126) (by decide +kernel))
    | 1, _ => exact (List.mem_of_getElem? (i := 127) (by decide +kernel))
    | 2, _ => exact (List.mem_of_getElem? (i := 128) (by decide +kernel))
    | 3, _ => exact (List.mem_of_getElem? (i := 129) (by decide +kernel))
    | 4, _ => exact (List.mem_of_getElem? (i := 130) (by decide +kernel))
    | 5, _ => exact (List.mem_of_getElem? (i := 131) (by decide +kernel))
    | n + 6, h => exact absurd h (by show ¬ n + 6 < 6; omega)
theorem ks_RX1_170 {l : Launch} {s0 : State} {a0 : Array Value} {G : va_G} {ca : Nat → ClassId} (Γ : rt_Γ l s0 a0 G ca) : ∃ a, vk_R RX1 170 "type" a s0 ∧ rt_str s0 a [116, 121, 112, 101] := by
  refine rt_mkstr Γ (tc_4 _ (List.mem_of_getElem? (i := 28) (by decide +kernel))) (List.mem_of_getElem? (i := 132) (by decide +kernel)) (List.mem_of_getElem? (i := 133) (by decide +kernel)) (List.mem_of_getElem? (i := 134) (by decide +kernel)) (List.mem_of_getElem? (i := 135) (by decide +kernel)) (fun j hj => ?_) (by decide)
  match j, hj with
    | 0, _ => exact (List.mem_of_getElem? (i := 136) (by decide +kernel))
    | 1, _ => exact (List.mem_of_getElem? (i := 137) (by decide +kernel))
    | 2, _ => exact (List.mem_of_getElem? (i := 138) (by decide +kernel))
    | 3, _ => exact (List.mem_of_getElem? (i := 139) (by decide +kernel))
    | n + 4, h => exact absurd h (by show ¬ n + 4 < 4; omega)
theorem ks_RX1_119 {l : Launch} {s0 : State} {a0 : Array Value} {G : va_G} {ca : Nat → ClassId} (Γ : rt_Γ l s0 a0 G ca) : ∃ a, vk_R RX1 119 "array" a s0 ∧ rt_str s0 a [97, 114, 114, 97, 121] := by
  refine rt_mkstr Γ (tc_4 _ (List.mem_of_getElem? (i := 41) (by decide +kernel))) (List.mem_of_getElem? (i := 140) (by decide +kernel)) (List.mem_of_getElem? (i := 141) (by decide +kernel)) (List.mem_of_getElem? (i := 142) (by decide +kernel)) (List.mem_of_getElem? (i := 143) (by decide +kernel)) (fun j hj => ?_) (by decide)
  match j, hj with
    | 0, _ => exact (List.mem_of_getElem? (i := 144) (by decide +kernel))
    | 1, _ => exact (List.mem_of_getElem? (i := 145) (by decide +kernel))
    | 2, _ => exact (List.mem_of_getElem? (i := 146) (by decide +kernel))
    | 3, _ => exact (List.mem_of_getElem? (i := 147) (by decide +kernel))
    | 4, _ => exact (List.mem_of_getElem? (i := 148) (by decide +kernel))
    | n + 5, h => exact absurd h (by show ¬ n + 5 < 5; omega)
theorem ks_RX1_121 {l : Launch} {s0 : State} {a0 : Array Value} {G : va_G} {ca : Nat → ClassId} (Γ : rt_Γ l s0 a0 G ca) : ∃ a, vk_R RX1 121 "map" a s0 ∧ rt_str s0 a [109, 97, 112] := by
  refine rt_mkstr Γ (tc_4 _ (List.mem_of_getElem? (i := 42) (by decide +kernel))) (List.mem_of_getElem? (i := 149) (by decide +kernel)) (List.mem_of_getElem? (i := 150) (by decide +kernel)) (List.mem_of_getElem? (i := 151) (by decide +kernel)) (List.mem_of_getElem? (i := 152) (by decide +kernel)) (fun j hj => ?_) (by decide)
  match j, hj with
    | 0, _ => exact (List.mem_of_getElem? (i := 153) (by decide +kernel))
    | 1, _ => exact (List.mem_of_getElem? (i := 154) (by decide +kernel))
    | 2, _ => exact (List.mem_of_getElem? (i := 155) (by decide +kernel))
    | n + 3, h => exact absurd h (by show ¬ n + 3 < 3; omega)
theorem ks_RX1_123 {l : Launch} {s0 : State} {a0 : Array Value} {G : va_G} {ca : Nat → ClassId} (Γ : rt_Γ l s0 a0 G ca) : ∃ a, vk_R RX1 123 "fixed" a s0 ∧ rt_str s0 a [102, 105, 120, 101, 100] := by
  refine rt_mkstr Γ (tc_4 _ (List.mem_of_getElem? (i := 43) (by decide +kernel))) (List.mem_of_getElem? (i := 156) (by decide +kernel)) (List.mem_of_getElem? (i := 157) (by decide +kernel)) (List.mem_of_getElem? (i := 158) (by decide +kernel)) (List.mem_of_getElem? (i := 159) (by decide +kernel)) (fun j hj => ?_) (by decide)
  match j, hj with
    | 0, _ => exact (List.mem_of_getElem? (i := 160) (by decide +kernel))
    | 1, _ => exact (List.mem_of_getElem? (i := 161) (by decide +kernel))
    | 2, _ => exact (List.mem_of_getElem? (i := 162) (by decide +kernel))
    | 3, _ => exact (List.mem_of_getElem? (i := 163) (by decide +kernel))
    | 4, _ => exact (List.mem_of_getElem? (i := 164) (by decide +kernel))
    | n + 5, h => exact absurd h (by show ¬ n + 5 < 5; omega)
theorem ks_RX1_125 {l : Launch} {s0 : State} {a0 : Array Value} {G : va_G} {ca : Nat → ClassId} (Γ : rt_Γ l s0 a0 G ca) : ∃ a, vk_R RX1 125 "enum" a s0 ∧ rt_str s0 a [101, 110, 117, 109] := by
  refine rt_mkstr Γ (tc_4 _ (List.mem_of_getElem? (i := 44) (by decide +kernel))) (List.mem_of_getElem? (i := 165) (by decide +kernel)) (List.mem_of_getElem? (i := 166) (by decide +kernel)) (List.mem_of_getElem? (i := 167) (by decide +kernel)) (List.mem_of_getElem? (i := 168) (by decide +kernel)) (fun j hj => ?_) (by decide)
  match j, hj with
    | 0, _ => exact (List.mem_of_getElem? (i := 169) (by decide +kernel))
    | 1, _ => exact (List.mem_of_getElem? (i := 170) (by decide +kernel))
    | 2, _ => exact (List.mem_of_getElem? (i := 171) (by decide +kernel))
    | 3, _ => exact (List.mem_of_getElem? (i := 172) (by decide +kernel))
    | n + 4, h => exact absurd h (by show ¬ n + 4 < 4; omega)
theorem ks_RX1_127 {l : Launch} {s0 : State} {a0 : Array Value} {G : va_G} {ca : Nat → ClassId} (Γ : rt_Γ l s0 a0 G ca) : ∃ a, vk_R RX1 127 "record" a s0 ∧ rt_str s0 a [114, 101, 99, 111, 114, 100] := by
  refine rt_mkstr Γ (tc_4 _ (List.mem_of_getElem? (i := 45) (by decide +kernel))) (List.mem_of_getElem? (i := 173) (by decide +kernel)) (List.mem_of_getElem? (i := 174) (by decide +kernel)) (List.mem_of_getElem? (i := 175) (by decide +kernel)) (List.mem_of_getElem? (i := 176) (by decide +kernel)) (fun j hj => ?_) (by decide)
  match j, hj with
    | 0, _ => exact (List.mem_of_getElem? (i := 177) (by decide +kernel))
    | 1, _ => exact (List.mem_of_getElem? (i := 178) (by decide +kernel))
    | 2, _ => exact (List.mem_of_getElem? (i := 179) (by decide +kernel))
    | 3, _ => exact (List.mem_of_getElem? (i := 180) (by decide +kernel))
    | 4, _ => exact (List.mem_of_getElem? (i := 181) (by decide +kernel))
    | 5, _ => exact (List.mem_of_getElem? (i := 182) (by decide +kernel))
    | n + 6, h => exact absurd h (by show ¬ n + 6 < 6; omega)
theorem ks_RX1_183 {l : Launch} {s0 : State} {a0 : Array Value} {G : va_G} {ca : Nat → ClassId} (Γ : rt_Γ l s0 a0 G ca) : ∃ a, vk_R RX1 183 "items" a s0 ∧ rt_str s0 a [105, 116, 101, 109, 115] := by
  refine rt_mkstr Γ (tc_4 _ (List.mem_of_getElem? (i := 46) (by decide +kernel))) (List.mem_of_getElem? (i := 183) (by decide +kernel)) (List.mem_of_getElem? (i := 184) (by decide +kernel)) (List.mem_of_getElem? (i := 185) (by decide +kernel)) (List.mem_of_getElem? (i := 186) (by decide +kernel)) (fun j hj => ?_) (by decide)
  match j, hj with
    | 0, _ => exact (List.mem_of_getElem? (i := 187) (by decide +kernel))
    | 1, _ => exact (List.mem_of_getElem? (i := 188) (by decide +kernel))
    | 2, _ => exact (List.mem_of_getElem? (i := 189) (by decide +kernel))
    | 3, _ => exact (List.mem_of_getElem? (i := 190) (by decide +kernel))
    | 4, _ => exact (List.mem_of_getElem? (i := 191) (by decide +kernel))
    | n + 5, h => exact absurd h (by show ¬ n + 5 < 5; omega)
theorem ks_RX1_189 {l : Launch} {s0 : State} {a0 : Array Value} {G : va_G} {ca : Nat → ClassId} (Γ : rt_Γ l s0 a0 G ca) : ∃ a, vk_R RX1 189 "values" a s0 ∧ rt_str s0 a [118, 97, 108, 117, 101, 115] := by
  refine rt_mkstr Γ (tc_4 _ (List.mem_of_getElem? (i := 55) (by decide +kernel))) (List.mem_of_getElem? (i := 192) (by decide +kernel)) (List.mem_of_getElem? (i := 193) (by decide +kernel)) (List.mem_of_getElem? (i := 194) (by decide +kernel)) (List.mem_of_getElem? (i := 195) (by decide +kernel)) (fun j hj => ?_) (by decide)
  match j, hj with
    | 0, _ => exact (List.mem_of_getElem? (i := 196) (by decide +kernel))
    | 1, _ => exact (List.mem_of_getElem? (i := 197) (by decide +kernel))
    | 2, _ => exact (List.mem_of_getElem? (i := 198) (by decide +kernel))
    | 3, _ => exact (List.mem_of_getElem? (i := 199) (by decide +kernel))
    | 4, _ => exact (List.mem_of_getElem? (i := 200) (by decide +kernel))
    | 5, _ => exact (List.mem_of_getElem? (i := 201) (by decide +kernel))
    | n + 6, h => exact absurd h (by show ¬ n + 6 < 6; omega)
theorem ks_RX1_203 {l : Launch} {s0 : State} {a0 : Array Value} {G : va_G} {ca : Nat → ClassId} (Γ : rt_Γ l s0 a0 G ca) : ∃ a, vk_R RX1 203 "name" a s0 ∧ rt_str s0 a [110, 97, 109, 101] := by
  refine rt_mkstr Γ (tc_4 _ (List.mem_of_getElem? (i := 64) (by decide +kernel))) (List.mem_of_getElem? (i := 202) (by decide +kernel)) (List.mem_of_getElem? (i := 203) (by decide +kernel)) (List.mem_of_getElem? (i := 204) (by decide +kernel)) (List.mem_of_getElem? (i := 205) (by decide +kernel)) (fun j hj => ?_) (by decide)
  match j, hj with
    | 0, _ => exact (List.mem_of_getElem? (i := 206) (by decide +kernel))
    | 1, _ => exact (List.mem_of_getElem? (i := 207) (by decide +kernel))
    | 2, _ => exact (List.mem_of_getElem? (i := 208) (by decide +kernel))
    | 3, _ => exact (List.mem_of_getElem? (i := 209) (by decide +kernel))
    | n + 4, h => exact absurd h (by show ¬ n + 4 < 4; omega)
theorem ks_RX1_220 {l : Launch} {s0 : State} {a0 : Array Value} {G : va_G} {ca : Nat → ClassId} (Γ : rt_Γ l s0 a0 G ca) : ∃ a, vk_R RX1 220 "size" a s0 ∧ rt_str s0 a [115, 105, 122, 101] := by
  refine rt_mkstr Γ (tc_4 _ (List.mem_of_getElem? (i := 89) (by decide +kernel))) (List.mem_of_getElem? (i := 210) (by decide +kernel)) (List.mem_of_getElem? (i := 211) (by decide +kernel)) (List.mem_of_getElem? (i := 212) (by decide +kernel)) (List.mem_of_getElem? (i := 213) (by decide +kernel)) (fun j hj => ?_) (by decide)
  match j, hj with
    | 0, _ => exact (List.mem_of_getElem? (i := 214) (by decide +kernel))
    | 1, _ => exact (List.mem_of_getElem? (i := 215) (by decide +kernel))
    | 2, _ => exact (List.mem_of_getElem? (i := 216) (by decide +kernel))
    | 3, _ => exact (List.mem_of_getElem? (i := 217) (by decide +kernel))
    | n + 4, h => exact absurd h (by show ¬ n + 4 < 4; omega)
theorem ks_RX1_231 {l : Launch} {s0 : State} {a0 : Array Value} {G : va_G} {ca : Nat → ClassId} (Γ : rt_Γ l s0 a0 G ca) : ∃ a, vk_R RX1 231 "symbols" a s0 ∧ rt_str s0 a [115, 121, 109, 98, 111, 108, 115] := by
  refine rt_mkstr Γ (tc_4 _ (List.mem_of_getElem? (i := 103) (by decide +kernel))) (List.mem_of_getElem? (i := 218) (by decide +kernel)) (List.mem_of_getElem? (i := 219) (by decide +kernel)) (List.mem_of_getElem? (i := 220) (by decide +kernel)) (List.mem_of_getElem? (i := 221) (by decide +kernel)) (fun j hj => ?_) (by decide)
  match j, hj with
    | 0, _ => exact (List.mem_of_getElem? (i := 222) (by decide +kernel))
    | 1, _ => exact (List.mem_of_getElem? (i := 223) (by decide +kernel))
    | 2, _ => exact (List.mem_of_getElem? (i := 224) (by decide +kernel))
    | 3, _ => exact (List.mem_of_getElem? (i := 225) (by decide +kernel))
    | 4, _ => exact (List.mem_of_getElem? (i := 226) (by decide +kernel))
    | 5, _ => exact (List.mem_of_getElem? (i := 227) (by decide +kernel))
    | 6, _ => exact (List.mem_of_getElem? (i := 228) (by decide +kernel))
    | n + 7, h => exact absurd h (by show ¬ n + 7 < 7; omega)
theorem ks_RX1_242 {l : Launch} {s0 : State} {a0 : Array Value} {G : va_G} {ca : Nat → ClassId} (Γ : rt_Γ l s0 a0 G ca) : ∃ a, vk_R RX1 242 "default" a s0 ∧ rt_str s0 a [100, 101, 102, 97, 117, 108, 116] := by
  refine rt_mkstr Γ (tc_4 _ (List.mem_of_getElem? (i := 120) (by decide +kernel))) (List.mem_of_getElem? (i := 229) (by decide +kernel)) (List.mem_of_getElem? (i := 230) (by decide +kernel)) (List.mem_of_getElem? (i := 231) (by decide +kernel)) (List.mem_of_getElem? (i := 232) (by decide +kernel)) (fun j hj => ?_) (by decide)
  match j, hj with
    | 0, _ => exact (List.mem_of_getElem? (i := 233) (by decide +kernel))
    | 1, _ => exact (List.mem_of_getElem? (i := 234) (by decide +kernel))
    | 2, _ => exact (List.mem_of_getElem? (i := 235) (by decide +kernel))
    | 3, _ => exact (List.mem_of_getElem? (i := 236) (by decide +kernel))
    | 4, _ => exact (List.mem_of_getElem? (i := 237) (by decide +kernel))
    | 5, _ => exact (List.mem_of_getElem? (i := 238) (by decide +kernel))
    | 6, _ => exact (List.mem_of_getElem? (i := 239) (by decide +kernel))
    | n + 7, h => exact absurd h (by show ¬ n + 7 < 7; omega)
theorem ks_RX1_248 {l : Launch} {s0 : State} {a0 : Array Value} {G : va_G} {ca : Nat → ClassId} (Γ : rt_Γ l s0 a0 G ca) : ∃ a, vk_R RX1 248 "fields" a s0 ∧ rt_str s0 a [102, 105, 101, 108, 100, 115] := by
  refine rt_mkstr Γ (tc_4 _ (List.mem_of_getElem? (i := 125) (by decide +kernel))) (List.mem_of_getElem? (i := 240) (by decide +kernel)) (List.mem_of_getElem? (i := 241) (by decide +kernel)) (List.mem_of_getElem? (i := 242) (by decide +kernel)) (List.mem_of_getElem? (i := 243) (by decide +kernel)) (fun j hj => ?_) (by decide)
  match j, hj with
    | 0, _ => exact (List.mem_of_getElem? (i := 244) (by decide +kernel))
    | 1, _ => exact (List.mem_of_getElem? (i := 245) (by decide +kernel))
    | 2, _ => exact (List.mem_of_getElem? (i := 246) (by decide +kernel))
    | 3, _ => exact (List.mem_of_getElem? (i := 247) (by decide +kernel))
    | 4, _ => exact (List.mem_of_getElem? (i := 248) (by decide +kernel))
    | 5, _ => exact (List.mem_of_getElem? (i := 249) (by decide +kernel))
    | n + 6, h => exact absurd h (by show ¬ n + 6 < 6; omega)
theorem ks_RX10_87 {l : Launch} {s0 : State} {a0 : Array Value} {G : va_G} {ca : Nat → ClassId} (Γ : rt_Γ l s0 a0 G ca) : ∃ a, vk_R RX10 87 "fault" a s0 ∧ rt_str s0 a [102, 97, 117, 108, 116] := by
  refine rt_mkstr Γ (tc_7 _ (List.mem_of_getElem? (i := 134) (by decide +kernel))) (List.mem_of_getElem? (i := 250) (by decide +kernel)) (List.mem_of_getElem? (i := 251) (by decide +kernel)) (List.mem_of_getElem? (i := 252) (by decide +kernel)) (List.mem_of_getElem? (i := 253) (by decide +kernel)) (fun j hj => ?_) (by decide)
  match j, hj with
    | 0, _ => exact (List.mem_of_getElem? (i := 254) (by decide +kernel))
    | 1, _ => exact (List.mem_of_getElem? (i := 255) (by decide +kernel))
    | 2, _ => exact (List.mem_of_getElem? (i := 256) (by decide +kernel))
    | 3, _ => exact (List.mem_of_getElem? (i := 257) (by decide +kernel))
    | 4, _ => exact (List.mem_of_getElem? (i := 258) (by decide +kernel))
    | n + 5, h => exact absurd h (by show ¬ n + 5 < 5; omega)
theorem ks_RX10_159 {l : Launch} {s0 : State} {a0 : Array Value} {G : va_G} {ca : Nat → ClassId} (Γ : rt_Γ l s0 a0 G ca) : ∃ a, vk_R RX10 159 "\"\\/bfnrt" a s0 ∧ rt_str s0 a [34, 92, 47, 98, 102, 110, 114, 116] := by
  refine rt_mkstr Γ (tc_7 _ (List.mem_of_getElem? (i := 163) (by decide +kernel))) (List.mem_of_getElem? (i := 259) (by decide +kernel)) (List.mem_of_getElem? (i := 260) (by decide +kernel)) (List.mem_of_getElem? (i := 261) (by decide +kernel)) (List.mem_of_getElem? (i := 262) (by decide +kernel)) (fun j hj => ?_) (by decide)
  match j, hj with
    | 0, _ => exact (List.mem_of_getElem? (i := 263) (by decide +kernel))
    | 1, _ => exact (List.mem_of_getElem? (i := 264) (by decide +kernel))
    | 2, _ => exact (List.mem_of_getElem? (i := 265) (by decide +kernel))
    | 3, _ => exact (List.mem_of_getElem? (i := 266) (by decide +kernel))
    | 4, _ => exact (List.mem_of_getElem? (i := 267) (by decide +kernel))
    | 5, _ => exact (List.mem_of_getElem? (i := 268) (by decide +kernel))
    | 6, _ => exact (List.mem_of_getElem? (i := 269) (by decide +kernel))
    | 7, _ => exact (List.mem_of_getElem? (i := 270) (by decide +kernel))
    | n + 8, h => exact absurd h (by show ¬ n + 8 < 8; omega)
theorem ks_RX10_131 {l : Launch} {s0 : State} {a0 : Array Value} {G : va_G} {ca : Nat → ClassId} (Γ : rt_Γ l s0 a0 G ca) : ∃ a, vk_R RX10 131 "true" a s0 ∧ rt_str s0 a [116, 114, 117, 101] := by
  refine rt_mkstr Γ (tc_8 _ (List.mem_of_getElem? (i := 2) (by decide +kernel))) (List.mem_of_getElem? (i := 271) (by decide +kernel)) (List.mem_of_getElem? (i := 272) (by decide +kernel)) (List.mem_of_getElem? (i := 273) (by decide +kernel)) (List.mem_of_getElem? (i := 274) (by decide +kernel)) (fun j hj => ?_) (by decide)
  match j, hj with
    | 0, _ => exact (List.mem_of_getElem? (i := 275) (by decide +kernel))
    | 1, _ => exact (List.mem_of_getElem? (i := 276) (by decide +kernel))
    | 2, _ => exact (List.mem_of_getElem? (i := 277) (by decide +kernel))
    | 3, _ => exact (List.mem_of_getElem? (i := 278) (by decide +kernel))
    | n + 4, h => exact absurd h (by show ¬ n + 4 < 4; omega)
theorem ks_RX10_133 {l : Launch} {s0 : State} {a0 : Array Value} {G : va_G} {ca : Nat → ClassId} (Γ : rt_Γ l s0 a0 G ca) : ∃ a, vk_R RX10 133 "false" a s0 ∧ rt_str s0 a [102, 97, 108, 115, 101] := by
  refine rt_mkstr Γ (tc_8 _ (List.mem_of_getElem? (i := 3) (by decide +kernel))) (List.mem_of_getElem? (i := 280) (by decide +kernel)) (List.mem_of_getElem? (i := 281) (by decide +kernel)) (List.mem_of_getElem? (i := 282) (by decide +kernel)) (List.mem_of_getElem? (i := 283) (by decide +kernel)) (fun j hj => ?_) (by decide)
  match j, hj with
    | 0, _ => exact (List.mem_of_getElem? (i := 284) (by decide +kernel))
    | 1, _ => exact (List.mem_of_getElem? (i := 285) (by decide +kernel))
    | 2, _ => exact (List.mem_of_getElem? (i := 286) (by decide +kernel))
    | 3, _ => exact (List.mem_of_getElem? (i := 287) (by decide +kernel))
    | 4, _ => exact (List.mem_of_getElem? (i := 288) (by decide +kernel))
    | n + 5, h => exact absurd h (by show ¬ n + 5 < 5; omega)
theorem ks_RX10_135 {l : Launch} {s0 : State} {a0 : Array Value} {G : va_G} {ca : Nat → ClassId} (Γ : rt_Γ l s0 a0 G ca) : ∃ a, vk_R RX10 135 "null" a s0 ∧ rt_str s0 a [110, 117, 108, 108] := by
  refine rt_mkstr Γ (tc_8 _ (List.mem_of_getElem? (i := 4) (by decide +kernel))) (List.mem_of_getElem? (i := 290) (by decide +kernel)) (List.mem_of_getElem? (i := 291) (by decide +kernel)) (List.mem_of_getElem? (i := 292) (by decide +kernel)) (List.mem_of_getElem? (i := 293) (by decide +kernel)) (fun j hj => ?_) (by decide)
  match j, hj with
    | 0, _ => exact (List.mem_of_getElem? (i := 294) (by decide +kernel))
    | 1, _ => exact (List.mem_of_getElem? (i := 295) (by decide +kernel))
    | 2, _ => exact (List.mem_of_getElem? (i := 296) (by decide +kernel))
    | 3, _ => exact (List.mem_of_getElem? (i := 297) (by decide +kernel))
    | n + 4, h => exact absurd h (by show ¬ n + 4 < 4; omega)
theorem ks_RX10_181 {l : Launch} {s0 : State} {a0 : Array Value} {G : va_G} {ca : Nat → ClassId} (Γ : rt_Γ l s0 a0 G ca) : ∃ a, vk_R RX10 181 "boolean" a s0 ∧ rt_str s0 a [98, 111, 111, 108, 101, 97, 110] := by
  refine rt_mkstr Γ (tc_8 _ (List.mem_of_getElem? (i := 19) (by decide +kernel))) (List.mem_of_getElem? (i := 300) (by decide +kernel)) (List.mem_of_getElem? (i := 301) (by decide +kernel)) (List.mem_of_getElem? (i := 302) (by decide +kernel)) (List.mem_of_getElem? (i := 303) (by decide +kernel)) (fun j hj => ?_) (by decide)
  match j, hj with
    | 0, _ => exact (List.mem_of_getElem? (i := 304) (by decide +kernel))
    | 1, _ => exact (List.mem_of_getElem? (i := 305) (by decide +kernel))
    | 2, _ => exact (List.mem_of_getElem? (i := 306) (by decide +kernel))
    | 3, _ => exact (List.mem_of_getElem? (i := 307) (by decide +kernel))
    | 4, _ => exact (List.mem_of_getElem? (i := 308) (by decide +kernel))
    | 5, _ => exact (List.mem_of_getElem? (i := 309) (by decide +kernel))
    | 6, _ => exact (List.mem_of_getElem? (i := 310) (by decide +kernel))
    | n + 7, h => exact absurd h (by show ¬ n + 7 < 7; omega)
theorem ks_RX10_183 {l : Launch} {s0 : State} {a0 : Array Value} {G : va_G} {ca : Nat → ClassId} (Γ : rt_Γ l s0 a0 G ca) : ∃ a, vk_R RX10 183 "int" a s0 ∧ rt_str s0 a [105, 110, 116] := by
  refine rt_mkstr Γ (tc_8 _ (List.mem_of_getElem? (i := 20) (by decide +kernel))) (List.mem_of_getElem? (i := 312) (by decide +kernel)) (List.mem_of_getElem? (i := 313) (by decide +kernel)) (List.mem_of_getElem? (i := 314) (by decide +kernel)) (List.mem_of_getElem? (i := 315) (by decide +kernel)) (fun j hj => ?_) (by decide)
  match j, hj with
    | 0, _ => exact (List.mem_of_getElem? (i := 316) (by decide +kernel))
    | 1, _ => exact (List.mem_of_getElem? (i := 317) (by decide +kernel))
    | 2, _ => exact (List.mem_of_getElem? (i := 318) (by decide +kernel))
    | n + 3, h => exact absurd h (by show ¬ n + 3 < 3; omega)
theorem ks_RX10_185 {l : Launch} {s0 : State} {a0 : Array Value} {G : va_G} {ca : Nat → ClassId} (Γ : rt_Γ l s0 a0 G ca) : ∃ a, vk_R RX10 185 "long" a s0 ∧ rt_str s0 a [108, 111, 110, 103] := by
  refine rt_mkstr Γ (tc_8 _ (List.mem_of_getElem? (i := 21) (by decide +kernel))) (List.mem_of_getElem? (i := 320) (by decide +kernel)) (List.mem_of_getElem? (i := 321) (by decide +kernel)) (List.mem_of_getElem? (i := 322) (by decide +kernel)) (List.mem_of_getElem? (i := 323) (by decide +kernel)) (fun j hj => ?_) (by decide)
  match j, hj with
    | 0, _ => exact (List.mem_of_getElem? (i := 324) (by decide +kernel))
    | 1, _ => exact (List.mem_of_getElem? (i := 325) (by decide +kernel))
    | 2, _ => exact (List.mem_of_getElem? (i := 326) (by decide +kernel))
    | 3, _ => exact (List.mem_of_getElem? (i := 327) (by decide +kernel))
    | n + 4, h => exact absurd h (by show ¬ n + 4 < 4; omega)
theorem ks_RX10_187 {l : Launch} {s0 : State} {a0 : Array Value} {G : va_G} {ca : Nat → ClassId} (Γ : rt_Γ l s0 a0 G ca) : ∃ a, vk_R RX10 187 "bytes" a s0 ∧ rt_str s0 a [98, 121, 116, 101, 115] := by
  refine rt_mkstr Γ (tc_8 _ (List.mem_of_getElem? (i := 22) (by decide +kernel))) (List.mem_of_getElem? (i := 329) (by decide +kernel)) (List.mem_of_getElem? (i := 330) (by decide +kernel)) (List.mem_of_getElem? (i := 331) (by decide +kernel)) (List.mem_of_getElem? (i := 332) (by decide +kernel)) (fun j hj => ?_) (by decide)
  match j, hj with
    | 0, _ => exact (List.mem_of_getElem? (i := 333) (by decide +kernel))
    | 1, _ => exact (List.mem_of_getElem? (i := 334) (by decide +kernel))
    | 2, _ => exact (List.mem_of_getElem? (i := 335) (by decide +kernel))
    | 3, _ => exact (List.mem_of_getElem? (i := 336) (by decide +kernel))
    | 4, _ => exact (List.mem_of_getElem? (i := 337) (by decide +kernel))
    | n + 5, h => exact absurd h (by show ¬ n + 5 < 5; omega)
theorem ks_RX10_188 {l : Launch} {s0 : State} {a0 : Array Value} {G : va_G} {ca : Nat → ClassId} (Γ : rt_Γ l s0 a0 G ca) : ∃ a, vk_R RX10 188 "string" a s0 ∧ rt_str s0 a [115, 116, 114, 105, 110, 103] := by
  refine rt_mkstr Γ (tc_8 _ (List.mem_of_getElem? (i := 23) (by decide +kernel))) (List.mem_of_getElem? (i := 339) (by decide +kernel)) (List.mem_of_getElem? (i := 340) (by decide +kernel)) (List.mem_of_getElem? (i := 341) (by decide +kernel)) (List.mem_of_getElem? (i := 342) (by decide +kernel)) (fun j hj => ?_) (by decide)
  match j, hj with
    | 0, _ => exact (List.mem_of_getElem? (i := 343) (by decide +kernel))
    | 1, _ => exact (List.mem_of_getElem? (i := 344) (by decide +kernel))
    | 2, _ => exact (List.mem_of_getElem? (i := 345) (by decide +kernel))
    | 3, _ => exact (List.mem_of_getElem? (i := 346) (by decide +kernel))
    | 4, _ => exact (List.mem_of_getElem? (i := 347) (by decide +kernel))
    | 5, _ => exact (List.mem_of_getElem? (i := 348) (by decide +kernel))
    | n + 6, h => exact absurd h (by show ¬ n + 6 < 6; omega)
theorem ks_RX10_208 {l : Launch} {s0 : State} {a0 : Array Value} {G : va_G} {ca : Nat → ClassId} (Γ : rt_Γ l s0 a0 G ca) : ∃ a, vk_R RX10 208 "type" a s0 ∧ rt_str s0 a [116, 121, 112, 101] := by
  refine rt_mkstr Γ (tc_8 _ (List.mem_of_getElem? (i := 44) (by decide +kernel))) (List.mem_of_getElem? (i := 350) (by decide +kernel)) (List.mem_of_getElem? (i := 351) (by decide +kernel)) (List.mem_of_getElem? (i := 352) (by decide +kernel)) (List.mem_of_getElem? (i := 353) (by decide +kernel)) (fun j hj => ?_) (by decide)
  match j, hj with
    | 0, _ => exact (List.mem_of_getElem? (i := 354) (by decide +kernel))
    | 1, _ => exact (List.mem_of_getElem? (i := 355) (by decide +kernel))
    | 2, _ => exact (List.mem_of_getElem? (i := 356) (by decide +kernel))
    | 3, _ => exact (List.mem_of_getElem? (i := 357) (by decide +kernel))
    | n + 4, h => exact absurd h (by show ¬ n + 4 < 4; omega)
theorem ks_RX10_214 {l : Launch} {s0 : State} {a0 : Array Value} {G : va_G} {ca : Nat → ClassId} (Γ : rt_Γ l s0 a0 G ca) : ∃ a, vk_R RX10 214 "array" a s0 ∧ rt_str s0 a [97, 114, 114, 97, 121] := by
  refine rt_mkstr Γ (tc_8 _ (List.mem_of_getElem? (i := 49) (by decide +kernel))) (List.mem_of_getElem? (i := 359) (by decide +kernel)) (List.mem_of_getElem? (i := 360) (by decide +kernel)) (List.mem_of_getElem? (i := 361) (by decide +kernel)) (List.mem_of_getElem? (i := 362) (by decide +kernel)) (fun j hj => ?_) (by decide)
  match j, hj with
    | 0, _ => exact (List.mem_of_getElem? (i := 363) (by decide +kernel))
    | 1, _ => exact (List.mem_of_getElem? (i := 364) (by decide +kernel))
    | 2, _ => exact (List.mem_of_getElem? (i := 365) (by decide +kernel))
    | 3, _ => exact (List.mem_of_getElem? (i := 366) (by decide +kernel))
    | 4, _ => exact (List.mem_of_getElem? (i := 367) (by decide +kernel))
    | n + 5, h => exact absurd h (by show ¬ n + 5 < 5; omega)
theorem ks_RX10_216 {l : Launch} {s0 : State} {a0 : Array Value} {G : va_G} {ca : Nat → ClassId} (Γ : rt_Γ l s0 a0 G ca) : ∃ a, vk_R RX10 216 "map" a s0 ∧ rt_str s0 a [109, 97, 112] := by
  refine rt_mkstr Γ (tc_8 _ (List.mem_of_getElem? (i := 50) (by decide +kernel))) (List.mem_of_getElem? (i := 369) (by decide +kernel)) (List.mem_of_getElem? (i := 370) (by decide +kernel)) (List.mem_of_getElem? (i := 371) (by decide +kernel)) (List.mem_of_getElem? (i := 372) (by decide +kernel)) (fun j hj => ?_) (by decide)
  match j, hj with
    | 0, _ => exact (List.mem_of_getElem? (i := 373) (by decide +kernel))
    | 1, _ => exact (List.mem_of_getElem? (i := 374) (by decide +kernel))
    | 2, _ => exact (List.mem_of_getElem? (i := 375) (by decide +kernel))
    | n + 3, h => exact absurd h (by show ¬ n + 3 < 3; omega)
theorem ks_RX10_218 {l : Launch} {s0 : State} {a0 : Array Value} {G : va_G} {ca : Nat → ClassId} (Γ : rt_Γ l s0 a0 G ca) : ∃ a, vk_R RX10 218 "items" a s0 ∧ rt_str s0 a [105, 116, 101, 109, 115] := by
  refine rt_mkstr Γ (tc_8 _ (List.mem_of_getElem? (i := 51) (by decide +kernel))) (List.mem_of_getElem? (i := 377) (by decide +kernel)) (List.mem_of_getElem? (i := 378) (by decide +kernel)) (List.mem_of_getElem? (i := 379) (by decide +kernel)) (List.mem_of_getElem? (i := 380) (by decide +kernel)) (fun j hj => ?_) (by decide)
  match j, hj with
    | 0, _ => exact (List.mem_of_getElem? (i := 381) (by decide +kernel))
    | 1, _ => exact (List.mem_of_getElem? (i := 382) (by decide +kernel))
    | 2, _ => exact (List.mem_of_getElem? (i := 383) (by decide +kernel))
    | 3, _ => exact (List.mem_of_getElem? (i := 384) (by decide +kernel))
    | 4, _ => exact (List.mem_of_getElem? (i := 385) (by decide +kernel))
    | n + 5, h => exact absurd h (by show ¬ n + 5 < 5; omega)
theorem ks_RX10_220 {l : Launch} {s0 : State} {a0 : Array Value} {G : va_G} {ca : Nat → ClassId} (Γ : rt_Γ l s0 a0 G ca) : ∃ a, vk_R RX10 220 "values" a s0 ∧ rt_str s0 a [118, 97, 108, 117, 101, 115] := by
  refine rt_mkstr Γ (tc_8 _ (List.mem_of_getElem? (i := 52) (by decide +kernel))) (List.mem_of_getElem? (i := 387) (by decide +kernel)) (List.mem_of_getElem? (i := 388) (by decide +kernel)) (List.mem_of_getElem? (i := 389) (by decide +kernel)) (List.mem_of_getElem? (i := 390) (by decide +kernel)) (fun j hj => ?_) (by decide)
  match j, hj with
    | 0, _ => exact (List.mem_of_getElem? (i := 391) (by decide +kernel))
    | 1, _ => exact (List.mem_of_getElem? (i := 392) (by decide +kernel))
    | 2, _ => exact (List.mem_of_getElem? (i := 393) (by decide +kernel))
    | 3, _ => exact (List.mem_of_getElem? (i := 394) (by decide +kernel))
    | 4, _ => exact (List.mem_of_getElem? (i := 395) (by decide +kernel))
    | 5, _ => exact (List.mem_of_getElem? (i := 396) (by decide +kernel))
    | n + 6, h => exact absurd h (by show ¬ n + 6 < 6; omega)
theorem ks_RX10_232 {l : Launch} {s0 : State} {a0 : Array Value} {G : va_G} {ca : Nat → ClassId} (Γ : rt_Γ l s0 a0 G ca) : ∃ a, vk_R RX10 232 "fixed" a s0 ∧ rt_str s0 a [102, 105, 120, 101, 100] := by
  refine rt_mkstr Γ (tc_8 _ (List.mem_of_getElem? (i := 53) (by decide +kernel))) (List.mem_of_getElem? (i := 398) (by decide +kernel)) (List.mem_of_getElem? (i := 399) (by decide +kernel)) (List.mem_of_getElem? (i := 400) (by decide +kernel)) (List.mem_of_getElem? (i := 401) (by decide +kernel)) (fun j hj => ?_) (by decide)
  match j, hj with
    | 0, _ => exact (List.mem_of_getElem? (i := 402) (by decide +kernel))
    | 1, _ => exact (List.mem_of_getElem? (i := 403) (by decide +kernel))
    | 2, _ => exact (List.mem_of_getElem? (i := 404) (by decide +kernel))
    | 3, _ => exact (List.mem_of_getElem? (i := 405) (by decide +kernel))
    | 4, _ => exact (List.mem_of_getElem? (i := 406) (by decide +kernel))
    | n + 5, h => exact absurd h (by show ¬ n + 5 < 5; omega)
theorem ks_RX10_234 {l : Launch} {s0 : State} {a0 : Array Value} {G : va_G} {ca : Nat → ClassId} (Γ : rt_Γ l s0 a0 G ca) : ∃ a, vk_R RX10 234 "enum" a s0 ∧ rt_str s0 a [101, 110, 117, 109] := by
  refine rt_mkstr Γ (tc_8 _ (List.mem_of_getElem? (i := 54) (by decide +kernel))) (List.mem_of_getElem? (i := 408) (by decide +kernel)) (List.mem_of_getElem? (i := 409) (by decide +kernel)) (List.mem_of_getElem? (i := 410) (by decide +kernel)) (List.mem_of_getElem? (i := 411) (by decide +kernel)) (fun j hj => ?_) (by decide)
  match j, hj with
    | 0, _ => exact (List.mem_of_getElem? (i := 412) (by decide +kernel))
    | 1, _ => exact (List.mem_of_getElem? (i := 413) (by decide +kernel))
    | 2, _ => exact (List.mem_of_getElem? (i := 414) (by decide +kernel))
    | 3, _ => exact (List.mem_of_getElem? (i := 415) (by decide +kernel))
    | n + 4, h => exact absurd h (by show ¬ n + 4 < 4; omega)
theorem ks_RX10_236 {l : Launch} {s0 : State} {a0 : Array Value} {G : va_G} {ca : Nat → ClassId} (Γ : rt_Γ l s0 a0 G ca) : ∃ a, vk_R RX10 236 "record" a s0 ∧ rt_str s0 a [114, 101, 99, 111, 114, 100] := by
  refine rt_mkstr Γ (tc_8 _ (List.mem_of_getElem? (i := 55) (by decide +kernel))) (List.mem_of_getElem? (i := 417) (by decide +kernel)) (List.mem_of_getElem? (i := 418) (by decide +kernel)) (List.mem_of_getElem? (i := 419) (by decide +kernel)) (List.mem_of_getElem? (i := 420) (by decide +kernel)) (fun j hj => ?_) (by decide)
  match j, hj with
    | 0, _ => exact (List.mem_of_getElem? (i := 421) (by decide +kernel))
    | 1, _ => exact (List.mem_of_getElem? (i := 422) (by decide +kernel))
    | 2, _ => exact (List.mem_of_getElem? (i := 423) (by decide +kernel))
    | 3, _ => exact (List.mem_of_getElem? (i := 424) (by decide +kernel))
    | 4, _ => exact (List.mem_of_getElem? (i := 425) (by decide +kernel))
    | 5, _ => exact (List.mem_of_getElem? (i := 426) (by decide +kernel))
    | n + 6, h => exact absurd h (by show ¬ n + 6 < 6; omega)
theorem ks_RX10_246 {l : Launch} {s0 : State} {a0 : Array Value} {G : va_G} {ca : Nat → ClassId} (Γ : rt_Γ l s0 a0 G ca) : ∃ a, vk_R RX10 246 "name" a s0 ∧ rt_str s0 a [110, 97, 109, 101] := by
  refine rt_mkstr Γ (tc_8 _ (List.mem_of_getElem? (i := 60) (by decide +kernel))) (List.mem_of_getElem? (i := 428) (by decide +kernel)) (List.mem_of_getElem? (i := 429) (by decide +kernel)) (List.mem_of_getElem? (i := 430) (by decide +kernel)) (List.mem_of_getElem? (i := 431) (by decide +kernel)) (fun j hj => ?_) (by decide)
  match j, hj with
    | 0, _ => exact (List.mem_of_getElem? (i := 432) (by decide +kernel))
    | 1, _ => exact (List.mem_of_getElem? (i := 433) (by decide +kernel))
    | 2, _ => exact (List.mem_of_getElem? (i := 434) (by decide +kernel))
    | 3, _ => exact (List.mem_of_getElem? (i := 435) (by decide +kernel))
    | n + 4, h => exact absurd h (by show ¬ n + 4 < 4; omega)
theorem ks_RX10_252 {l : Launch} {s0 : State} {a0 : Array Value} {G : va_G} {ca : Nat → ClassId} (Γ : rt_Γ l s0 a0 G ca) : ∃ a, vk_R RX10 252 "size" a s0 ∧ rt_str s0 a [115, 105, 122, 101] := by
  refine rt_mkstr Γ (tc_8 _ (List.mem_of_getElem? (i := 65) (by decide +kernel))) (List.mem_of_getElem? (i := 437) (by decide +kernel)) (List.mem_of_getElem? (i := 438) (by decide +kernel)) (List.mem_of_getElem? (i := 439) (by decide +kernel)) (List.mem_of_getElem? (i := 440) (by decide +kernel)) (fun j hj => ?_) (by decide)
  match j, hj with
    | 0, _ => exact (List.mem_of_getElem? (i := 441) (by decide +kernel))
    | 1, _ => exact (List.mem_of_getElem? (i := 442) (by decide +kernel))
    | 2, _ => exact (List.mem_of_getElem? (i := 443) (by decide +kernel))
    | 3, _ => exact (List.mem_of_getElem? (i := 444) (by decide +kernel))
    | n + 4, h => exact absurd h (by show ¬ n + 4 < 4; omega)
theorem ks_RX10_263 {l : Launch} {s0 : State} {a0 : Array Value} {G : va_G} {ca : Nat → ClassId} (Γ : rt_Γ l s0 a0 G ca) : ∃ a, vk_R RX10 263 "symbols" a s0 ∧ rt_str s0 a [115, 121, 109, 98, 111, 108, 115] := by
  refine rt_mkstr Γ (tc_8 _ (List.mem_of_getElem? (i := 71) (by decide +kernel))) (List.mem_of_getElem? (i := 446) (by decide +kernel)) (List.mem_of_getElem? (i := 447) (by decide +kernel)) (List.mem_of_getElem? (i := 448) (by decide +kernel)) (List.mem_of_getElem? (i := 449) (by decide +kernel)) (fun j hj => ?_) (by decide)
  match j, hj with
    | 0, _ => exact (List.mem_of_getElem? (i := 450) (by decide +kernel))
    | 1, _ => exact (List.mem_of_getElem? (i := 451) (by decide +kernel))
    | 2, _ => exact (List.mem_of_getElem? (i := 452) (by decide +kernel))
    | 3, _ => exact (List.mem_of_getElem? (i := 453) (by decide +kernel))
    | 4, _ => exact (List.mem_of_getElem? (i := 454) (by decide +kernel))
    | 5, _ => exact (List.mem_of_getElem? (i := 455) (by decide +kernel))
    | 6, _ => exact (List.mem_of_getElem? (i := 456) (by decide +kernel))
    | n + 7, h => exact absurd h (by show ¬ n + 7 < 7; omega)
theorem ks_RX10_264 {l : Launch} {s0 : State} {a0 : Array Value} {G : va_G} {ca : Nat → ClassId} (Γ : rt_Γ l s0 a0 G ca) : ∃ a, vk_R RX10 264 "default" a s0 ∧ rt_str s0 a [100, 101, 102, 97, 117, 108, 116] := by
  refine rt_mkstr Γ (tc_8 _ (List.mem_of_getElem? (i := 72) (by decide +kernel))) (List.mem_of_getElem? (i := 458) (by decide +kernel)) (List.mem_of_getElem? (i := 459) (by decide +kernel)) (List.mem_of_getElem? (i := 460) (by decide +kernel)) (List.mem_of_getElem? (i := 461) (by decide +kernel)) (fun j hj => ?_) (by decide)
  match j, hj with
    | 0, _ => exact (List.mem_of_getElem? (i := 462) (by decide +kernel))
    | 1, _ => exact (List.mem_of_getElem? (i := 463) (by decide +kernel))
    | 2, _ => exact (List.mem_of_getElem? (i := 464) (by decide +kernel))
    | 3, _ => exact (List.mem_of_getElem? (i := 465) (by decide +kernel))
    | 4, _ => exact (List.mem_of_getElem? (i := 466) (by decide +kernel))
    | 5, _ => exact (List.mem_of_getElem? (i := 467) (by decide +kernel))
    | 6, _ => exact (List.mem_of_getElem? (i := 468) (by decide +kernel))
    | n + 7, h => exact absurd h (by show ¬ n + 7 < 7; omega)
theorem ks_RX10_270 {l : Launch} {s0 : State} {a0 : Array Value} {G : va_G} {ca : Nat → ClassId} (Γ : rt_Γ l s0 a0 G ca) : ∃ a, vk_R RX10 270 "fields" a s0 ∧ rt_str s0 a [102, 105, 101, 108, 100, 115] := by
  refine rt_mkstr Γ (tc_8 _ (List.mem_of_getElem? (i := 81) (by decide +kernel))) (List.mem_of_getElem? (i := 470) (by decide +kernel)) (List.mem_of_getElem? (i := 471) (by decide +kernel)) (List.mem_of_getElem? (i := 472) (by decide +kernel)) (List.mem_of_getElem? (i := 473) (by decide +kernel)) (fun j hj => ?_) (by decide)
  match j, hj with
    | 0, _ => exact (List.mem_of_getElem? (i := 474) (by decide +kernel))
    | 1, _ => exact (List.mem_of_getElem? (i := 475) (by decide +kernel))
    | 2, _ => exact (List.mem_of_getElem? (i := 476) (by decide +kernel))
    | 3, _ => exact (List.mem_of_getElem? (i := 477) (by decide +kernel))
    | 4, _ => exact (List.mem_of_getElem? (i := 478) (by decide +kernel))
    | 5, _ => exact (List.mem_of_getElem? (i := 479) (by decide +kernel))
    | n + 6, h => exact absurd h (by show ¬ n + 6 < 6; omega)
theorem ks_RX10_300 {l : Launch} {s0 : State} {a0 : Array Value} {G : va_G} {ca : Nat → ClassId} (Γ : rt_Γ l s0 a0 G ca) : ∃ a, vk_R RX10 300 "{\"type\":\"array\",\"items\":" a s0 ∧ rt_str s0 a [123, 34, 116, 121, 112, 101, 34, 58, 34, 97, 114, 114, 97, 121, 34, 44, 34, 105, 116, 101, 109, 115, 34, 58] := by
  refine rt_mkstr Γ (tc_8 _ (List.mem_of_getElem? (i := 94) (by decide +kernel))) (List.mem_of_getElem? (i := 481) (by decide +kernel)) (List.mem_of_getElem? (i := 482) (by decide +kernel)) (List.mem_of_getElem? (i := 483) (by decide +kernel)) (List.mem_of_getElem? (i := 484) (by decide +kernel)) (fun j hj => ?_) (by decide)
  match j, hj with
    | 0, _ => exact (List.mem_of_getElem? (i := 485) (by decide +kernel))
    | 1, _ => exact (List.mem_of_getElem? (i := 486) (by decide +kernel))
    | 2, _ => exact (List.mem_of_getElem? (i := 487) (by decide +kernel))
    | 3, _ => exact (List.mem_of_getElem? (i := 488) (by decide +kernel))
    | 4, _ => exact (List.mem_of_getElem? (i := 489) (by decide +kernel))
    | 5, _ => exact (List.mem_of_getElem? (i := 490) (by decide +kernel))
    | 6, _ => exact (List.mem_of_getElem? (i := 491) (by decide +kernel))
    | 7, _ => exact (List.mem_of_getElem? (i := 492) (by decide +kernel))
    | 8, _ => exact (List.mem_of_getElem? (i := 493) (by decide +kernel))
    | 9, _ => exact (List.mem_of_getElem? (i := 494) (by decide +kernel))
    | 10, _ => exact (List.mem_of_getElem? (i := 495) (by decide +kernel))
    | 11, _ => exact (List.mem_of_getElem? (i := 496) (by decide +kernel))
    | 12, _ => exact (List.mem_of_getElem? (i := 497) (by decide +kernel))
    | 13, _ => exact (List.mem_of_getElem? (i := 498) (by decide +kernel))
    | 14, _ => exact (List.mem_of_getElem? (i := 499) (by decide +kernel))
    | 15, _ => exact (List.mem_of_getElem? (i := 500) (by decide +kernel))
    | 16, _ => exact (List.mem_of_getElem? (i := 501) (by decide +kernel))
    | 17, _ => exact (List.mem_of_getElem? (i := 502) (by decide +kernel))
    | 18, _ => exact (List.mem_of_getElem? (i := 503) (by decide +kernel))
    | 19, _ => exact (List.mem_of_getElem? (i := 504) (by decide +kernel))
    | 20, _ => exact (List.mem_of_getElem? (i := 505) (by decide +kernel))
    | 21, _ => exact (List.mem_of_getElem? (i := 506) (by decide +kernel))
    | 22, _ => exact (List.mem_of_getElem? (i := 507) (by decide +kernel))
    | 23, _ => exact (List.mem_of_getElem? (i := 508) (by decide +kernel))
    | n + 24, h => exact absurd h (by show ¬ n + 24 < 24; omega)
theorem ks_RX10_302 {l : Launch} {s0 : State} {a0 : Array Value} {G : va_G} {ca : Nat → ClassId} (Γ : rt_Γ l s0 a0 G ca) : ∃ a, vk_R RX10 302 "{\"type\":\"map\",\"values\":" a s0 ∧ rt_str s0 a [123, 34, 116, 121, 112, 101, 34, 58, 34, 109, 97, 112, 34, 44, 34, 118, 97, 108, 117, 101, 115, 34, 58] := by
  refine rt_mkstr Γ (tc_8 _ (List.mem_of_getElem? (i := 95) (by decide +kernel))) (List.mem_of_getElem? (i := 509) (by decide +kernel)) (List.mem_of_getElem? (i := 510) (by decide +kernel)) (List.mem_of_getElem? (i := 511) (by decide +kernel)) (List.mem_of_getElem? (i := 512) (by decide +kernel)) (fun j hj => ?_) (by decide)
  match j, hj with
    | 0, _ => exact (List.mem_of_getElem? (i := 513) (by decide +kernel))
    | 1, _ => exact (List.mem_of_getElem? (i := 514) (by decide +kernel))
    | 2, _ => exact (List.mem_of_getElem? (i := 515) (by decide +kernel))
    | 3, _ => exact (List.mem_of_getElem? (i := 516) (by decide +kernel))
    | 4, _ => exact (List.mem_of_getElem? (i := 517) (by decide +kernel))
    | 5, _ => exact (List.mem_of_getElem? (i := 518) (by decide +kernel))
    | 6, _ => exact (List.mem_of_getElem? (i := 519) (by decide +kernel))
    | 7, _ => exact (List.mem_of_getElem? (i := 520) (by decide +kernel))
    | 8, _ => exact (List.mem_of_getElem? (i := 521) (by decide +kernel))
    | 9, _ => exact (List.mem_of_getElem? (i := 522) (by decide +kernel))
    | 10, _ => exact (List.mem_of_getElem? (i := 523) (by decide +kernel))
    | 11, _ => exact (List.mem_of_getElem? (i := 524) (by decide +kernel))
    | 12, _ => exact (List.mem_of_getElem? (i := 525) (by decide +kernel))
    | 13, _ => exact (List.mem_of_getElem? (i := 526) (by decide +kernel))
    | 14, _ => exact (List.mem_of_getElem? (i := 527) (by decide +kernel))
    | 15, _ => exact (List.mem_of_getElem? (i := 528) (by decide +kernel))
    | 16, _ => exact (List.mem_of_getElem? (i := 529) (by decide +kernel))
    | 17, _ => exact (List.mem_of_getElem? (i := 530) (by decide +kernel))
    | 18, _ => exact (List.mem_of_getElem? (i := 531) (by decide +kernel))
    | 19, _ => exact (List.mem_of_getElem? (i := 532) (by decide +kernel))
    | 20, _ => exact (List.mem_of_getElem? (i := 533) (by decide +kernel))
    | 21, _ => exact (List.mem_of_getElem? (i := 534) (by decide +kernel))
    | 22, _ => exact (List.mem_of_getElem? (i := 535) (by decide +kernel))
    | n + 23, h => exact absurd h (by show ¬ n + 23 < 23; omega)
theorem ks_RX10_304 {l : Launch} {s0 : State} {a0 : Array Value} {G : va_G} {ca : Nat → ClassId} (Γ : rt_Γ l s0 a0 G ca) : ∃ a, vk_R RX10 304 "}" a s0 ∧ rt_str s0 a [125] := by
  refine rt_mkstr Γ (tc_8 _ (List.mem_of_getElem? (i := 100) (by decide +kernel))) (List.mem_of_getElem? (i := 536) (by decide +kernel)) (List.mem_of_getElem? (i := 537) (by decide +kernel)) (List.mem_of_getElem? (i := 538) (by decide +kernel)) (List.mem_of_getElem? (i := 539) (by decide +kernel)) (fun j hj => ?_) (by decide)
  match j, hj with
    | 0, _ => exact (List.mem_of_getElem? (i := 540) (by decide +kernel))
    | n + 1, h => exact absurd h (by show ¬ n + 1 < 1; omega)
theorem ks_RX10_306 {l : Launch} {s0 : State} {a0 : Array Value} {G : va_G} {ca : Nat → ClassId} (Γ : rt_Γ l s0 a0 G ca) : ∃ a, vk_R RX10 306 "[" a s0 ∧ rt_str s0 a [91] := by
  refine rt_mkstr Γ (tc_8 _ (List.mem_of_getElem? (i := 101) (by decide +kernel))) (List.mem_of_getElem? (i := 541) (by decide +kernel)) (List.mem_of_getElem? (i := 542) (by decide +kernel)) (List.mem_of_getElem? (i := 543) (by decide +kernel)) (List.mem_of_getElem? (i := 544) (by decide +kernel)) (fun j hj => ?_) (by decide)
  match j, hj with
    | 0, _ => exact (List.mem_of_getElem? (i := 545) (by decide +kernel))
    | n + 1, h => exact absurd h (by show ¬ n + 1 < 1; omega)
theorem ks_RX10_308 {l : Launch} {s0 : State} {a0 : Array Value} {G : va_G} {ca : Nat → ClassId} (Γ : rt_Γ l s0 a0 G ca) : ∃ a, vk_R RX10 308 "," a s0 ∧ rt_str s0 a [44] := by
  refine rt_mkstr Γ (tc_8 _ (List.mem_of_getElem? (i := 102) (by decide +kernel))) (List.mem_of_getElem? (i := 546) (by decide +kernel)) (List.mem_of_getElem? (i := 547) (by decide +kernel)) (List.mem_of_getElem? (i := 548) (by decide +kernel)) (List.mem_of_getElem? (i := 549) (by decide +kernel)) (fun j hj => ?_) (by decide)
  match j, hj with
    | 0, _ => exact (List.mem_of_getElem? (i := 550) (by decide +kernel))
    | n + 1, h => exact absurd h (by show ¬ n + 1 < 1; omega)
theorem ks_RX10_310 {l : Launch} {s0 : State} {a0 : Array Value} {G : va_G} {ca : Nat → ClassId} (Γ : rt_Γ l s0 a0 G ca) : ∃ a, vk_R RX10 310 "" a s0 ∧ rt_str s0 a [] := by
  refine rt_mkstr Γ (tc_8 _ (List.mem_of_getElem? (i := 103) (by decide +kernel))) (List.mem_of_getElem? (i := 551) (by decide +kernel)) (List.mem_of_getElem? (i := 552) (by decide +kernel)) (List.mem_of_getElem? (i := 553) (by decide +kernel)) (List.mem_of_getElem? (i := 554) (by decide +kernel)) (fun j hj => ?_) (by decide)
  match j, hj with
    | n + 0, h => exact absurd h (by show ¬ n + 0 < 0; omega)
theorem ks_RX10_312 {l : Launch} {s0 : State} {a0 : Array Value} {G : va_G} {ca : Nat → ClassId} (Γ : rt_Γ l s0 a0 G ca) : ∃ a, vk_R RX10 312 "]" a s0 ∧ rt_str s0 a [93] := by
  refine rt_mkstr Γ (tc_8 _ (List.mem_of_getElem? (i := 104) (by decide +kernel))) (List.mem_of_getElem? (i := 555) (by decide +kernel)) (List.mem_of_getElem? (i := 556) (by decide +kernel)) (List.mem_of_getElem? (i := 557) (by decide +kernel)) (List.mem_of_getElem? (i := 558) (by decide +kernel)) (fun j hj => ?_) (by decide)
  match j, hj with
    | 0, _ => exact (List.mem_of_getElem? (i := 559) (by decide +kernel))
    | n + 1, h => exact absurd h (by show ¬ n + 1 < 1; omega)
theorem ks_RX10_295 {l : Launch} {s0 : State} {a0 : Array Value} {G : va_G} {ca : Nat → ClassId} (Γ : rt_Γ l s0 a0 G ca) : ∃ a, vk_R RX10 295 "\"" a s0 ∧ rt_str s0 a [34] := by
  refine rt_mkstr Γ (tc_8 _ (List.mem_of_getElem? (i := 113) (by decide +kernel))) (List.mem_of_getElem? (i := 560) (by decide +kernel)) (List.mem_of_getElem? (i := 561) (by decide +kernel)) (List.mem_of_getElem? (i := 562) (by decide +kernel)) (List.mem_of_getElem? (i := 563) (by decide +kernel)) (fun j hj => ?_) (by decide)
  match j, hj with
    | 0, _ => exact (List.mem_of_getElem? (i := 564) (by decide +kernel))
    | n + 1, h => exact absurd h (by show ¬ n + 1 < 1; omega)
theorem ks_RX10_320 {l : Launch} {s0 : State} {a0 : Array Value} {G : va_G} {ca : Nat → ClassId} (Γ : rt_Γ l s0 a0 G ca) : ∃ a, vk_R RX10 320 "{\"name\":" a s0 ∧ rt_str s0 a [123, 34, 110, 97, 109, 101, 34, 58] := by
  refine rt_mkstr Γ (tc_8 _ (List.mem_of_getElem? (i := 114) (by decide +kernel))) (List.mem_of_getElem? (i := 565) (by decide +kernel)) (List.mem_of_getElem? (i := 566) (by decide +kernel)) (List.mem_of_getElem? (i := 567) (by decide +kernel)) (List.mem_of_getElem? (i := 568) (by decide +kernel)) (fun j hj => ?_) (by decide)
  match j, hj with
    | 0, _ => exact (List.mem_of_getElem? (i := 569) (by decide +kernel))
    | 1, _ => exact (List.mem_of_getElem? (i := 570) (by decide +kernel))
    | 2, _ => exact (List.mem_of_getElem? (i := 571) (by decide +kernel))
    | 3, _ => exact (List.mem_of_getElem? (i := 572) (by decide +kernel))
    | 4, _ => exact (List.mem_of_getElem? (i := 573) (by decide +kernel))
    | 5, _ => exact (List.mem_of_getElem? (i := 574) (by decide +kernel))
    | 6, _ => exact (List.mem_of_getElem? (i := 575) (by decide +kernel))
    | 7, _ => exact (List.mem_of_getElem? (i := 576) (by decide +kernel))
    | n + 8, h => exact absurd h (by show ¬ n + 8 < 8; omega)
theorem ks_RX10_322 {l : Launch} {s0 : State} {a0 : Array Value} {G : va_G} {ca : Nat → ClassId} (Γ : rt_Γ l s0 a0 G ca) : ∃ a, vk_R RX10 322 ",\"type\":\"fixed\",\"size\":" a s0 ∧ rt_str s0 a [44, 34, 116, 121, 112, 101, 34, 58, 34, 102, 105, 120, 101, 100, 34, 44, 34, 115, 105, 122, 101, 34, 58] := by
  refine rt_mkstr Γ (tc_8 _ (List.mem_of_getElem? (i := 115) (by decide +kernel))) (List.mem_of_getElem? (i := 577) (by decide +kernel)) (List.mem_of_getElem? (i := 578) (by decide +kernel)) (List.mem_of_getElem? (i := 579) (by decide +kernel)) (List.mem_of_getElem? (i := 580) (by decide +kernel)) (fun j hj => ?_) (by decide)
  match j, hj with
    | 0, _ => exact (List.mem_of_getElem? (i := 581) (by decide +kernel))
    | 1, _ => exact (List.mem_of_getElem? (i := 582) (by decide +kernel))
    | 2, _ => exact (List.mem_of_getElem? (i := 583) (by decide +kernel))
    | 3, _ => exact (List.mem_of_getElem? (i := 584) (by decide +kernel))
    | 4, _ => exact (List.mem_of_getElem? (i := 585) (by decide +kernel))
    | 5, _ => exact (List.mem_of_getElem? (i := 586) (by decide +kernel))
    | 6, _ => exact (List.mem_of_getElem? (i := 587) (by decide +kernel))
    | 7, _ => exact (List.mem_of_getElem? (i := 588) (by decide +kernel))
    | 8, _ => exact (List.mem_of_getElem? (i := 589) (by decide +kernel))
    | 9, _ => exact (List.mem_of_getElem? (i := 590) (by decide +kernel))
    | 10, _ => exact (List.mem_of_getElem? (i := 591) (by decide +kernel))
    | 11, _ => exact (List.mem_of_getElem? (i := 592) (by decide +kernel))
    | 12, _ => exact (List.mem_of_getElem? (i := 593) (by decide +kernel))
    | 13, _ => exact (List.mem_of_getElem? (i := 594) (by decide +kernel))
    | 14, _ => exact (List.mem_of_getElem? (i := 595) (by decide +kernel))
    | 15, _ => exact (List.mem_of_getElem? (i := 596) (by decide +kernel))
    | 16, _ => exact (List.mem_of_getElem? (i := 597) (by decide +kernel))
    | 17, _ => exact (List.mem_of_getElem? (i := 598) (by decide +kernel))
    | 18, _ => exact (List.mem_of_getElem? (i := 599) (by decide +kernel))
    | 19, _ => exact (List.mem_of_getElem? (i := 600) (by decide +kernel))
    | 20, _ => exact (List.mem_of_getElem? (i := 601) (by decide +kernel))
    | 21, _ => exact (List.mem_of_getElem? (i := 602) (by decide +kernel))
    | 22, _ => exact (List.mem_of_getElem? (i := 603) (by decide +kernel))
    | n + 23, h => exact absurd h (by show ¬ n + 23 < 23; omega)
theorem ks_RX10_327 {l : Launch} {s0 : State} {a0 : Array Value} {G : va_G} {ca : Nat → ClassId} (Γ : rt_Γ l s0 a0 G ca) : ∃ a, vk_R RX10 327 ",\"type\":\"enum\",\"symbols\":[" a s0 ∧ rt_str s0 a [44, 34, 116, 121, 112, 101, 34, 58, 34, 101, 110, 117, 109, 34, 44, 34, 115, 121, 109, 98, 111, 108, 115, 34, 58, 91] := by
  refine rt_mkstr Γ (tc_8 _ (List.mem_of_getElem? (i := 120) (by decide +kernel))) (List.mem_of_getElem? (i := 604) (by decide +kernel)) (List.mem_of_getElem? (i := 605) (by decide +kernel)) (List.mem_of_getElem? (i := 606) (by decide +kernel)) (List.mem_of_getElem? (i := 607) (by decide +kernel)) (fun j hj => ?_) (by decide)
  match j, hj with
    | 0, _ => exact (List.mem_of_getElem? (i := 608) (by decide +kernel))
    | 1, _ => exact (List.mem_of_getElem? (i := 609) (by decide +kernel))
    | 2, _ => exact (List.mem_of_getElem? (i := 610) (by decide +kernel))
    | 3, _ => exact (List.mem_of_getElem? (i := 611) (by decide +kernel))
    | 4, _ => exact (List.mem_of_getElem? (i := 612) (by decide +kernel))
    | 5, _ => exact (List.mem_of_getElem? (i := 613) (by decide +kernel))
    | 6, _ => exact (List.mem_of_getElem? (i := 614) (by decide +kernel))
    | 7, _ => exact (List.mem_of_getElem? (i := 615) (by decide +kernel))
    | 8, _ => exact (List.mem_of_getElem? (i := 616) (by decide +kernel))
    | 9, _ => exact (List.mem_of_getElem? (i := 617) (by decide +kernel))
    | 10, _ => exact (List.mem_of_getElem? (i := 618) (by decide +kernel))
    | 11, _ => exact (List.mem_of_getElem? (i := 619) (by decide +kernel))
    | 12, _ => exact (List.mem_of_getElem? (i := 620) (by decide +kernel))
    | 13, _ => exact (List.mem_of_getElem? (i := 621) (by decide +kernel))
    | 14, _ => exact (List.mem_of_getElem? (i := 622) (by decide +kernel))
    | 15, _ => exact (List.mem_of_getElem? (i := 623) (by decide +kernel))
    | 16, _ => exact (List.mem_of_getElem? (i := 624) (by decide +kernel))
    | 17, _ => exact (List.mem_of_getElem? (i := 625) (by decide +kernel))
    | 18, _ => exact (List.mem_of_getElem? (i := 626) (by decide +kernel))
    | 19, _ => exact (List.mem_of_getElem? (i := 627) (by decide +kernel))
    | 20, _ => exact (List.mem_of_getElem? (i := 628) (by decide +kernel))
    | 21, _ => exact (List.mem_of_getElem? (i := 629) (by decide +kernel))
    | 22, _ => exact (List.mem_of_getElem? (i := 630) (by decide +kernel))
    | 23, _ => exact (List.mem_of_getElem? (i := 631) (by decide +kernel))
    | 24, _ => exact (List.mem_of_getElem? (i := 632) (by decide +kernel))
    | 25, _ => exact (List.mem_of_getElem? (i := 633) (by decide +kernel))
    | n + 26, h => exact absurd h (by show ¬ n + 26 < 26; omega)
theorem ks_RX10_329 {l : Launch} {s0 : State} {a0 : Array Value} {G : va_G} {ca : Nat → ClassId} (Γ : rt_Γ l s0 a0 G ca) : ∃ a, vk_R RX10 329 ",\"type\":\"record\",\"fields\":[" a s0 ∧ rt_str s0 a [44, 34, 116, 121, 112, 101, 34, 58, 34, 114, 101, 99, 111, 114, 100, 34, 44, 34, 102, 105, 101, 108, 100, 115, 34, 58, 91] := by
  refine rt_mkstr Γ (tc_8 _ (List.mem_of_getElem? (i := 121) (by decide +kernel))) (List.mem_of_getElem? (i := 634) (by decide +kernel)) (List.mem_of_getElem? (i := 635) (by decide +kernel)) (List.mem_of_getElem? (i := 636) (by decide +kernel)) (List.mem_of_getElem? (i := 637) (by decide +kernel)) (fun j hj => ?_) (by decide)
  match j, hj with
    | 0, _ => exact (List.mem_of_getElem? (i := 638) (by decide +kernel))
    | 1, _ => exact (List.mem_of_getElem? (i := 639) (by decide +kernel))
    | 2, _ => exact (List.mem_of_getElem? (i := 640) (by decide +kernel))
    | 3, _ => exact (List.mem_of_getElem? (i := 641) (by decide +kernel))
    | 4, _ => exact (List.mem_of_getElem? (i := 642) (by decide +kernel))
    | 5, _ => exact (List.mem_of_getElem? (i := 643) (by decide +kernel))
    | 6, _ => exact (List.mem_of_getElem? (i := 644) (by decide +kernel))
    | 7, _ => exact (List.mem_of_getElem? (i := 645) (by decide +kernel))
    | 8, _ => exact (List.mem_of_getElem? (i := 646) (by decide +kernel))
    | 9, _ => exact (List.mem_of_getElem? (i := 647) (by decide +kernel))
    | 10, _ => exact (List.mem_of_getElem? (i := 648) (by decide +kernel))
    | 11, _ => exact (List.mem_of_getElem? (i := 649) (by decide +kernel))
    | 12, _ => exact (List.mem_of_getElem? (i := 650) (by decide +kernel))
    | 13, _ => exact (List.mem_of_getElem? (i := 651) (by decide +kernel))
    | 14, _ => exact (List.mem_of_getElem? (i := 652) (by decide +kernel))
    | 15, _ => exact (List.mem_of_getElem? (i := 653) (by decide +kernel))
    | 16, _ => exact (List.mem_of_getElem? (i := 654) (by decide +kernel))
    | 17, _ => exact (List.mem_of_getElem? (i := 655) (by decide +kernel))
    | 18, _ => exact (List.mem_of_getElem? (i := 656) (by decide +kernel))
    | 19, _ => exact (List.mem_of_getElem? (i := 657) (by decide +kernel))
    | 20, _ => exact (List.mem_of_getElem? (i := 658) (by decide +kernel))
    | 21, _ => exact (List.mem_of_getElem? (i := 659) (by decide +kernel))
    | 22, _ => exact (List.mem_of_getElem? (i := 660) (by decide +kernel))
    | 23, _ => exact (List.mem_of_getElem? (i := 661) (by decide +kernel))
    | 24, _ => exact (List.mem_of_getElem? (i := 662) (by decide +kernel))
    | 25, _ => exact (List.mem_of_getElem? (i := 663) (by decide +kernel))
    | 26, _ => exact (List.mem_of_getElem? (i := 664) (by decide +kernel))
    | n + 27, h => exact absurd h (by show ¬ n + 27 < 27; omega)
theorem ks_RX10_331 {l : Launch} {s0 : State} {a0 : Array Value} {G : va_G} {ca : Nat → ClassId} (Γ : rt_Γ l s0 a0 G ca) : ∃ a, vk_R RX10 331 ",\"type\":" a s0 ∧ rt_str s0 a [44, 34, 116, 121, 112, 101, 34, 58] := by
  refine rt_mkstr Γ (tc_8 _ (List.mem_of_getElem? (i := 122) (by decide +kernel))) (List.mem_of_getElem? (i := 665) (by decide +kernel)) (List.mem_of_getElem? (i := 666) (by decide +kernel)) (List.mem_of_getElem? (i := 667) (by decide +kernel)) (List.mem_of_getElem? (i := 668) (by decide +kernel)) (fun j hj => ?_) (by decide)
  match j, hj with
    | 0, _ => exact (List.mem_of_getElem? (i := 669) (by decide +kernel))
    | 1, _ => exact (List.mem_of_getElem? (i := 670) (by decide +kernel))
    | 2, _ => exact (List.mem_of_getElem? (i := 671) (by decide +kernel))
    | 3, _ => exact (List.mem_of_getElem? (i := 672) (by decide +kernel))
    | 4, _ => exact (List.mem_of_getElem? (i := 673) (by decide +kernel))
    | 5, _ => exact (List.mem_of_getElem? (i := 674) (by decide +kernel))
    | 6, _ => exact (List.mem_of_getElem? (i := 675) (by decide +kernel))
    | 7, _ => exact (List.mem_of_getElem? (i := 676) (by decide +kernel))
    | n + 8, h => exact absurd h (by show ¬ n + 8 < 8; omega)
theorem ks_RX10_333 {l : Launch} {s0 : State} {a0 : Array Value} {G : va_G} {ca : Nat → ClassId} (Γ : rt_Γ l s0 a0 G ca) : ∃ a, vk_R RX10 333 "]}" a s0 ∧ rt_str s0 a [93, 125] := by
  refine rt_mkstr Γ (tc_8 _ (List.mem_of_getElem? (i := 123) (by decide +kernel))) (List.mem_of_getElem? (i := 677) (by decide +kernel)) (List.mem_of_getElem? (i := 678) (by decide +kernel)) (List.mem_of_getElem? (i := 679) (by decide +kernel)) (List.mem_of_getElem? (i := 680) (by decide +kernel)) (fun j hj => ?_) (by decide)
  match j, hj with
    | 0, _ => exact (List.mem_of_getElem? (i := 681) (by decide +kernel))
    | 1, _ => exact (List.mem_of_getElem? (i := 682) (by decide +kernel))
    | n + 2, h => exact absurd h (by show ¬ n + 2 < 2; omega)
theorem ks_RX11_95 {l : Launch} {s0 : State} {a0 : Array Value} {G : va_G} {ca : Nat → ClassId} (Γ : rt_Γ l s0 a0 G ca) : ∃ a, vk_R RX11 95 "fault" a s0 ∧ rt_str s0 a [102, 97, 117, 108, 116] := by
  refine rt_mkstr Γ (tc_8 _ (List.mem_of_getElem? (i := 145) (by decide +kernel))) (List.mem_of_getElem? (i := 683) (by decide +kernel)) (List.mem_of_getElem? (i := 684) (by decide +kernel)) (List.mem_of_getElem? (i := 685) (by decide +kernel)) (List.mem_of_getElem? (i := 686) (by decide +kernel)) (fun j hj => ?_) (by decide)
  match j, hj with
    | 0, _ => exact (List.mem_of_getElem? (i := 687) (by decide +kernel))
    | 1, _ => exact (List.mem_of_getElem? (i := 688) (by decide +kernel))
    | 2, _ => exact (List.mem_of_getElem? (i := 689) (by decide +kernel))
    | 3, _ => exact (List.mem_of_getElem? (i := 690) (by decide +kernel))
    | 4, _ => exact (List.mem_of_getElem? (i := 691) (by decide +kernel))
    | n + 5, h => exact absurd h (by show ¬ n + 5 < 5; omega)
theorem kz_CS {l : Launch} {s0 : State} {a0 : Array Value} {G : va_G} {ca : Nat → ClassId} (Γ : rt_Γ l s0 a0 G ca) : va_Z "java/lang/String" "COMPACT_STRINGS" "Z" (.int 1) (rt_B s0) s0 s0.heap := va_Zof (Γ.2.1 _ (tc_3 _ (List.mem_of_getElem? (i := 98) (by decide +kernel)))) (Γ.2.1 _ (tc_1 _ (List.mem_of_getElem? (i := 19) (by decide +kernel)))) (va_eqt (rt_leaf Γ (List.mem_of_getElem? (i := 6) (by decide +kernel)))) (fun a h => Nat.not_le.mpr h)
theorem kz_SF {l : Launch} {s0 : State} {a0 : Array Value} {G : va_G} {ca : Nat → ClassId} (Γ : rt_Γ l s0 a0 G ca) : va_Zq "jdk/internal/util/Preconditions" "SIOOBE_FORMATTER" "Ljava/util/function/BiFunction;" (rt_B s0) s0 s0.heap := va_Zqof (Γ.2.1 _ (tc_3 _ (List.mem_of_getElem? (i := 114) (by decide +kernel)))) (Γ.2.1 _ (tc_1 _ (List.mem_of_getElem? (i := 21) (by decide +kernel)))) (rt_leaf Γ (List.mem_of_getElem? (i := 7) (by decide +kernel))) (fun a h => Nat.not_le.mpr h)
