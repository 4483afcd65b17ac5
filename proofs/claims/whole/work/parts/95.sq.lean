/-! ===== kid numbers stay apart; bounds of a look ===== -/
/-- what is kept: kid numbers apart; done fields are of nodes that are there -/
def kV (st : SS) : Prop := kU st ∧ ∀ z ∈ st.lt, z.1 < 6 + st.ns.length
theorem kU.new {st : SS} (h : kU st) {kd ct : Nat} {nm : Option (List Int32 × Nat)} : kU (sNew st kd nm ct) := by
  obtain ⟨u1, u2, u3⟩ := h
  have old : ∀ (i : Nat) (n : SN), (sNew st kd nm ct).ns[i]? = some n → st.ns[i]? = some n ∨ n.ps = [] := fun i n hi => by
    have hi2 : (st.ns ++ [(kd, nm, -1, ct, [])])[i]? = some n := hi
    by_cases c : i < st.ns.length
    · rw [List.getElem?_append_left c] at hi2
      exact Or.inl hi2
    · rw [List.getElem?_append_right (by omega)] at hi2
      have := List.mem_of_getElem? hi2
      rw [List.mem_singleton] at this
      subst this
      exact Or.inr rfl
  refine ⟨fun i n q hi hq => ?_, fun i j n m q r hi hj hq hr e => ?_, fun i n hi => ?_⟩
  · rcases old i n hi with h | h
    · exact u1 i n q h hq
    · rw [h] at hq; exact nomatch hq
  · rcases old i n hi with h | h
    · rcases old j m hj with g | g
      · exact u2 i j n m q r h g hq hr e
      · rw [g] at hr; exact nomatch hr
    · rw [h] at hq; exact nomatch hq
  · rcases old i n hi with h | h
    · exact u3 i n h
    · rw [h]; exact List.Pairwise.nil
/-- a node whose kids keep their numbers -/
theorem kU.put {st : SS} (h : kU st) {i : Nat} {n n' : SN} (hi : st.ns[i]? = some n) (hk : n'.ps.map (fun q => q.kn) = n.ps.map (fun q => q.kn)) {lt : List (Nat × Nat × Option Nat)} : kU (st.lk, st.kc, nPut st.ns (6 + i) n', lt) := by
  obtain ⟨u1, u2, u3⟩ := h
  have mem : ∀ q ∈ n'.ps, ∃ r ∈ n.ps, r.kn = q.kn := fun q hq => by
    have : q.kn ∈ n'.ps.map (fun q => q.kn) := List.mem_map.mpr ⟨q, hq, rfl⟩
    rw [hk] at this
    obtain ⟨r, h1, h2⟩ := List.mem_map.mp this
    exact ⟨r, h1, h2⟩
  have hil := (List.getElem?_eq_some_iff.mp hi).1
  have old : ∀ (j : Nat) (m : SN), (nPut st.ns (6 + i) n')[j]? = some m → (j = i ∧ m = n') ∨ st.ns[j]? = some m := fun j m hj => by
    unfold nPut at hj
    rw [show 6 + i - 6 = i by omega] at hj
    by_cases c : j = i
    · subst c
      rw [List.getElem?_set_self hil] at hj
      cases hj
      exact Or.inl ⟨rfl, rfl⟩
    · rw [List.getElem?_set_ne (fun e => c e.symm)] at hj
      exact Or.inr hj
  have real : ∀ (j : Nat) (m : SN) (q : SP), (nPut st.ns (6 + i) n')[j]? = some m → q ∈ m.ps → ∃ (m0 : SN) (q0 : SP), st.ns[j]? = some m0 ∧ q0 ∈ m0.ps ∧ q0.kn = q.kn := fun j m q hj hq => by
    rcases old j m hj with ⟨rfl, rfl⟩ | h
    · obtain ⟨r, h1, h2⟩ := mem q hq
      exact ⟨n, r, hi, h1, h2⟩
    · exact ⟨m, q, h, hq, rfl⟩
  refine ⟨fun j m q hj hq => ?_, fun j k m m2 q r hj hk2 hq hr e => ?_, fun j m hj => ?_⟩
  · obtain ⟨m0, q0, g1, g2, g3⟩ := real j m q hj hq
    rw [← g3]
    exact u1 j m0 q0 g1 g2
  · obtain ⟨m0, q0, g1, g2, g3⟩ := real j m q hj hq
    obtain ⟨m1, q1, f1, f2, f3⟩ := real k m2 r hk2 hr
    exact u2 j k m0 m1 q0 q1 g1 f1 g2 f2 (by rw [g3, f3, e])
  · rcases old j m hj with ⟨rfl, rfl⟩ | h
    · have := u3 j n hi
      have e1 : (n.ps.map (fun q => q.kn)).Pairwise (fun a b => ¬ a = b) := List.pairwise_map.mpr this
      rw [← hk] at e1
      exact List.pairwise_map.mp e1
    · exact u3 j m h
theorem kU.add {st : SS} (h : kU st) {i : Nat} {n : SN} (hi : st.ns[i]? = some n) {nm : List Int32} {nd df : Option Nat} : kU (sAdd st (6 + i) nm nd df) := by
  obtain ⟨u1, u2, u3⟩ := h
  have hil := (List.getElem?_eq_some_iff.mp hi).1
  have ens : (sAdd st (6 + i) nm nd df).ns = st.ns.set i (n.kd, n.nm, n.dt, n.ct, n.ps ++ [(nm, nd, df, st.kc)]) := by
    unfold sAdd nPut
    rw [nN_at hi, show 6 + i - 6 = i by omega]
  have real : ∀ (j : Nat) (m : SN) (q : SP), (sAdd st (6 + i) nm nd df).ns[j]? = some m → q ∈ m.ps → (j = i ∧ q.kn = st.kc) ∨ ∃ m0 : SN, st.ns[j]? = some m0 ∧ q ∈ m0.ps := fun j m q hj hq => by
    rw [ens] at hj
    by_cases c : j = i
    · subst c
      rw [List.getElem?_set_self hil] at hj
      cases hj
      rcases List.mem_append.mp hq with g | g
      · exact Or.inr ⟨n, hi, g⟩
      · rw [List.mem_singleton] at g
        subst g
        exact Or.inl ⟨rfl, rfl⟩
    · rw [List.getElem?_set_ne (fun e => c e.symm)] at hj
      exact Or.inr ⟨m, hj, hq⟩
  refine ⟨fun j m q hj hq => ?_, fun j k m m2 q r hj hk hq hr e => ?_, fun j m hj => ?_⟩
  · rcases real j m q hj hq with ⟨-, g⟩ | ⟨m0, g1, g2⟩
    · rw [g]; exact Nat.lt_succ_self _
    · exact Nat.lt_succ_of_lt (u1 j m0 q g1 g2)
  · rcases real j m q hj hq with ⟨g0, g⟩ | ⟨m0, g1, g2⟩
    · rcases real k m2 r hk hr with ⟨f0, f⟩ | ⟨m1, f1, f2⟩
      · rw [g0, f0]
      · have := u1 k m1 r f1 f2
        omega
    · rcases real k m2 r hk hr with ⟨f0, f⟩ | ⟨m1, f1, f2⟩
      · have := u1 j m0 q g1 g2
        omega
      · exact u2 j k m0 m1 q r g1 f1 g2 f2 e
  · rw [ens] at hj
    by_cases c : j = i
    · subst c
      rw [List.getElem?_set_self hil] at hj
      cases hj
      show (n.ps ++ [(nm, nd, df, st.kc)]).Pairwise _
      rw [List.pairwise_append]
      refine ⟨u3 j n hi, List.pairwise_singleton _ _, fun q hq r hr => ?_⟩
      rw [List.mem_singleton] at hr
      subst hr
      have := u1 j n q hi hq
      show ¬ q.kn = st.kc
      omega
    · rw [List.getElem?_set_ne (fun e => c e.symm)] at hj
      exact u3 j m hj
