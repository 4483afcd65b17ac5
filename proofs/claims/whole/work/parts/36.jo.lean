/-! ===== parseValue keeps its promise ===== -/
theorem jNum_erc {g : Nat → Int32} {p e : Nat} (h : jNum g p = .error e) :
    (g p = 45 ∧ ((¬ jDgt (g (p + 1)) ∧ e = p + 1) ∨ (jDgt (g (p + 1)) ∧ e = p ∧ (jDig g (-9223372036854775808) (if g (p + 1) = 48 then 1 else 4096) (p + 1) 1 0).2.1 = 0))) ∨
    (¬ g p = 45 ∧ ((¬ jDgt (g p) ∧ e = p) ∨ (jDgt (g p) ∧ e = p ∧ (jDig g (-9223372036854775807) (if g p = 48 then 1 else 4096) p 1 0).2.1 = 0))) := by
  unfold jNum at h
  by_cases c : g p = 45
  · rw [if_pos c] at h
    refine Or.inl ⟨c, ?_⟩
    by_cases c1 : jDgt (g (p + 1))
    · rw [if_pos c1] at h
      by_cases z : (jDig g (-9223372036854775808) (if g (p + 1) = 48 then 1 else 4096) (p + 1) 1 0).2.1 = 0
      · rw [if_pos z] at h
        exact Or.inr ⟨c1, (Except.error.inj h).symm, z⟩
      · rw [if_neg z] at h
        exact nomatch h
    · rw [if_neg c1] at h
      exact Or.inl ⟨c1, (Except.error.inj h).symm⟩
  · rw [if_neg c] at h
    refine Or.inr ⟨c, ?_⟩
    by_cases c1 : jDgt (g p)
    · rw [if_pos c1] at h
      by_cases z : (jDig g (-9223372036854775807) (if g p = 48 then 1 else 4096) p 1 0).2.1 = 0
      · rw [if_pos z] at h
        exact Or.inr ⟨c1, (Except.error.inj h).symm, z⟩
      · rw [if_neg z] at h
        exact nomatch h
    · rw [if_neg c1] at h
      exact Or.inl ⟨c1, (Except.error.inj h).symm⟩
