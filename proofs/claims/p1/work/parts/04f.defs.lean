/-! ===== static facts, in words: what an instruction of a class links ===== -/
def rt_lay (C : String) (T : u_T) (N : Nat) : Prop := ∀ w ∈ u_ws C T N, w ∈ lw_tbl ∧ goodWord w = true
/-- a field by an entry of own's constant pool: field k of the classes' ci -/
def rt_Fd (own : String) (index ci k : Nat) : Prop := ∃ (C : String) (T : u_T) (N : Nat) (ref n2 ds : String) (fin : Bool), Cond.fieldLink own index ref n2 ds ∈ lw_tbl ∧ vwCl[ci]? = some (C, T, N) ∧ rt_lay C T N ∧ T k = (ref, n2, ds, fin) ∧ k < N
def rt_FdN (own : String) (index ci k : Nat) : Prop := ∃ (C : String) (T : u_T) (N : Nat) (ref n2 ds : String) (fin : Bool) (host : String), Cond.fieldLinkNest own index ref n2 ds host ∈ lw_tbl ∧ vwCl[ci]? = some (C, T, N) ∧ rt_lay C T N ∧ T k = (ref, n2, ds, fin) ∧ k < N
def rt_Fp (own nm : String) (index ci k : Nat) (ty : FieldType) : Prop := ∃ (C : String) (T : u_T) (N : Nat) (ref n2 ds : String) (fin : Bool) (ty0 : Nat → FieldType), Cond.fieldLink own index ref n2 ds ∈ lw_tbl ∧ vwCl[ci]? = some (C, T, N) ∧ rt_lay C T N ∧ T k = (ref, n2, ds, fin) ∧ k < N ∧
  (∀ k, k < N → parseFieldDescriptor (T k).2.2.1 = some (ty0 k)) ∧ (∀ a, a < N → ∀ b, b < N → a ≠ b → (T a).2.1 ≠ (T b).2.1) ∧ parseFieldDescriptor ds = some ty ∧ (fin = false ∨ (fin = true ∧ nm = "<init>" ∧ ref = own))
/-- a class by an entry of own's constant pool, and the fields of a new object -/
def rt_Fn (own : String) (index ci N : Nat) (fs : List Value) : Prop := ∃ (C : String) (T : u_T) (ty0 : Nat → FieldType), Cond.classLink own index C ∈ lw_tbl ∧ Cond.instantiable C N ∈ lw_tbl ∧ Cond.initialized C ∈ lw_tbl ∧ vwCl[ci]? = some (C, T, N) ∧ rt_lay C T N ∧
  (∀ k, k < N → parseFieldDescriptor (T k).2.2.1 = some (ty0 k)) ∧ ∀ j, j < N → defaultValue (ty0 j) = vp_V fs j
/-- a method's code: its word stands in the tables -/
def rt_Kc (y : MethodName) (kc : Cond) (cc : ByteArray) (nL : Nat) (ret : Option FieldType) (tab : List ExceptionTableEntry) : Prop :=
  kc ∈ lw_tbl ∧ goodWord kc = true ∧ ((kc = .code y cc nL ret ∧ tab = []) ∨ ∃ hh, kc = .codeWith y cc nL ret hh ∧ tab = tableOf hh) ∧ plainName y.cls = true ∧ Cond.initialized y.cls ∈ lw_tbl ∧ (y.cls ≠ "java/lang/invoke/MethodHandle" ∧ y.cls ≠ "java/lang/invoke/VarHandle")
/-- a callee's static facts: y by the entry index of own's constant pool -/
def rt_Cv (own : String) (index : Nat) (C : String) (y : MethodName) : Prop := Cond.methodLink own index y ∈ lw_tbl ∧ Cond.instanceMethod y ∈ lw_tbl ∧ Cond.selects C y y ∈ lw_tbl ∧ goodWord (Cond.selects C y y) = true
def rt_CvN (own : String) (index : Nat) (C : String) (y : MethodName) : Prop := (∃ host, Cond.methodLinkNest own index y host ∈ lw_tbl) ∧ Cond.instanceMethod y ∈ lw_tbl ∧ Cond.selects C y y ∈ lw_tbl ∧ goodWord (Cond.selects C y y) = true
def rt_Cs (own : String) (index : Nat) (y : MethodName) : Prop := Cond.methodLink own index y ∈ lw_tbl ∧ Cond.static y ∈ lw_tbl
def rt_Ci (own : String) (index : Nat) (y : MethodName) : Prop := Cond.methodLink own index y ∈ lw_tbl ∧ Cond.instanceMethod y ∈ lw_tbl ∧ y.name = "<init>"
def rt_CiN (own : String) (index : Nat) (y : MethodName) : Prop := (∃ host, Cond.methodLinkNest own index y host ∈ lw_tbl) ∧ Cond.instanceMethod y ∈ lw_tbl ∧ y.name = "<init>"
theorem rt_privsel {y : MethodName} {i n : Nat} (h : lw_privs[i]? = some (y, n)) : Cond.selects y.cls y y ∈ k2_sels lw_privs := List.mem_map.mpr ⟨(y, n), List.mem_of_getElem? h, rfl⟩
theorem tc_1 : ∀ w ∈ tables_1_1, w ∈ lw_tbl := fun w h => List.mem_append_right _ (List.mem_append_left _ h)
theorem tc_2 : ∀ w ∈ tables_1_2, w ∈ lw_tbl := fun w h => List.mem_append_right _ (List.mem_append_right _ (List.mem_append_left _ h))
theorem tc_3 : ∀ w ∈ tables_1_3, w ∈ lw_tbl := fun w h => List.mem_append_right _ (List.mem_append_right _ (List.mem_append_right _ (List.mem_append_left _ h)))
theorem tc_4 : ∀ w ∈ tables_1_4, w ∈ lw_tbl := fun w h => List.mem_append_right _ (List.mem_append_right _ (List.mem_append_right _ (List.mem_append_right _ (List.mem_append_left _ h))))
theorem tc_5 : ∀ w ∈ tables_1_5, w ∈ lw_tbl := fun w h => List.mem_append_right _ (List.mem_append_right _ (List.mem_append_right _ (List.mem_append_right _ (List.mem_append_right _ (List.mem_append_left _ h)))))
theorem tc_6 : ∀ w ∈ tables_1_6, w ∈ lw_tbl := fun w h => List.mem_append_right _ (List.mem_append_right _ (List.mem_append_right _ (List.mem_append_right _ (List.mem_append_right _ (List.mem_append_right _ (List.mem_append_left _ h))))))
theorem tc_7 : ∀ w ∈ tables_1_7, w ∈ lw_tbl := fun w h => List.mem_append_right _ (List.mem_append_right _ (List.mem_append_right _ (List.mem_append_right _ (List.mem_append_right _ (List.mem_append_right _ (List.mem_append_right _ (List.mem_append_left _ h)))))))
theorem tc_8 : ∀ w ∈ tables_1_8, w ∈ lw_tbl := fun w h => List.mem_append_right _ (List.mem_append_right _ (List.mem_append_right _ (List.mem_append_right _ (List.mem_append_right _ (List.mem_append_right _ (List.mem_append_right _ (List.mem_append_right _ (List.mem_append_left _ h))))))))
theorem tc_9 : ∀ w ∈ tables_1_9, w ∈ lw_tbl := fun w h => List.mem_append_right _ (List.mem_append_right _ (List.mem_append_right _ (List.mem_append_right _ (List.mem_append_right _ (List.mem_append_right _ (List.mem_append_right _ (List.mem_append_right _ (List.mem_append_right _ (h)))))))))
